theorem Met.pre {l : Launch} {y : MethodName} {ws : List Cond} {rm : Room} {av : List Value} {B B' : State → Prop} {Qc : Array Value → State → Outcome → State → Prop} {mc ms : Nat} {free : Addr → Prop} (hM : Met l y ws rm (va_Pc av B) Qc mc ms free) (hB : ∀ U, B' U → B U) : Met l y ws rm (va_Pc av B') Qc mc ms free := by
  intro p e ha hc hk s m args below hfr hap hP hK
  exact hM p e ha hc hk s m args below hfr hap ⟨hP.1, hB _ hP.2⟩ hK
theorem Met.toMut {l : Launch} {y : MethodName} {ws : List Cond} {rm : Room} {av : List Value} {B X : State → Prop} {val : Int32} {D : va_G} {cl : List vw_C} {tys : List (ClassId × FieldType)} {sz : Nat} {W0 : va_W} (hM : Met l y ws rm (va_Pc av B) (vp_Si (fun r => r = val)) 0 0 (fun _ => False)) (hB : ∀ U, mP D cl tys sz W0 X U → B U) : Met l y ws rm (va_Pc av (mP D cl tys sz W0 X)) (va_Qi (fun (r : Int32) (_ : Unit) => r = val) (mB D cl tys (va_A W0 sz) W0) (va_A W0 sz)) 0 0 (va_A W0 sz) := by
  intro p e ha hc hk s m args below hfr hap hP hK
  obtain ⟨n, o, h1, h2, h3, ⟨r, ho, hr, hh⟩, L, hF, hL⟩ := hM p e ha hc hk s m args below hfr hap ⟨hP.1, hB _ hP.2⟩ hK
  obtain ⟨-, -, hp, hk2, hd, -⟩ := hP
  refine ⟨n, o, h1, h2, h3, ⟨⟨r, (), ho, hr, ?_, va_K.moved hF.2.1.alike hk2, hd.self⟩, ?_, ?_⟩, L, hF, fun q h => (hL q h).elim⟩
  · rw [hh]; exact hp
  · rw [hh]; exact Nat.le_refl _
  · intro q _ _; rw [hh]
set_option maxHeartbeats 4000000 in
set_option maxRecDepth 100000 in
theorem Cc_fP_told (x : CS) (x1 : Int32) (hn : x.2.2.1 ≤ 14) : CC yP_told prog_1_method_6_code 2 [.int x1] x (x) (fP_told x.2.2.1 x.2.2.2.1 x1) := by
  intro l dC dI sz ao at3 am3 as3 ab3 az3 at4 am4 as4 ab4 az4 ag aj ap cm3 cs3 cb3 cm4 cs4 cb4 cj cp
  exact Met.toMut (c_fP_told l dC dI ao x.1 x.2.1 at3 am3 as3 ab3 az3 cm3 cs3 cb3 x.2.2.2.2.2.2.1 x.2.2.2.2.2.2.2.1 x.2.2.2.2.2.2.2.2.1 at4 am4 as4 ab4 az4 cm4 cs4 cb4 x.2.2.2.2.2.2.2.2.2.1 x.2.2.2.2.2.2.2.2.2.2.1 x.2.2.2.2.2.2.2.2.2.2.2 ag aj ap cj cp x.2.2.1 x.2.2.2.1 x.2.2.2.2.1 x.2.2.2.2.2.1 x1 hn) (fun U h => ⟨⟨h.2.1, h.2.2.1⟩, h.2.2.2.2.1⟩)
set_option maxHeartbeats 4000000 in
set_option maxRecDepth 100000 in
theorem Cc_fP_degree (x : CS) (x1 : Int32) (hn : x.2.2.1 ≤ 14) : CC yP_degree prog_1_method_7_code 2 [.int x1] x (x) (fP_degree x.2.2.1 x.2.2.2.2.1 x1) := by
  intro l dC dI sz ao at3 am3 as3 ab3 az3 at4 am4 as4 ab4 az4 ag aj ap cm3 cs3 cb3 cm4 cs4 cb4 cj cp
  exact Met.toMut (c_fP_degree l dC dI ao x.1 x.2.1 at3 am3 as3 ab3 az3 cm3 cs3 cb3 x.2.2.2.2.2.2.1 x.2.2.2.2.2.2.2.1 x.2.2.2.2.2.2.2.2.1 at4 am4 as4 ab4 az4 cm4 cs4 cb4 x.2.2.2.2.2.2.2.2.2.1 x.2.2.2.2.2.2.2.2.2.2.1 x.2.2.2.2.2.2.2.2.2.2.2 ag aj ap cj cp x.2.2.1 x.2.2.2.1 x.2.2.2.2.1 x.2.2.2.2.2.1 x1 hn) (fun U h => ⟨⟨h.2.1, h.2.2.1⟩, h.2.2.2.2.1⟩)
set_option maxHeartbeats 4000000 in
set_option maxRecDepth 100000 in
theorem Cc_fP_both (x : CS) (x1 : Int32) (x2 : Int32) (hn : x.2.2.1 ≤ 14) : CC yP_both prog_1_method_8_code 3 [.int x1, .int x2] x (x) (fP_both x.2.2.1 x.2.2.2.2.1 x1 x2) := by
  intro l dC dI sz ao at3 am3 as3 ab3 az3 at4 am4 as4 ab4 az4 ag aj ap cm3 cs3 cb3 cm4 cs4 cb4 cj cp
  exact Met.toMut (c_fP_both l dC dI ao x.1 x.2.1 at3 am3 as3 ab3 az3 cm3 cs3 cb3 x.2.2.2.2.2.2.1 x.2.2.2.2.2.2.2.1 x.2.2.2.2.2.2.2.2.1 at4 am4 as4 ab4 az4 cm4 cs4 cb4 x.2.2.2.2.2.2.2.2.2.1 x.2.2.2.2.2.2.2.2.2.2.1 x.2.2.2.2.2.2.2.2.2.2.2 ag aj ap cj cp x.2.2.1 x.2.2.2.1 x.2.2.2.2.1 x.2.2.2.2.2.1 x1 x2 hn) (fun U h => ⟨⟨h.2.1, h.2.2.1⟩, h.2.2.2.2.1⟩)
set_option maxHeartbeats 4000000 in
set_option maxRecDepth 100000 in
theorem Cc_fP_count3 (x : CS) (x1 : Int32) (x2 : Int32) (hn : x.2.2.1 ≤ 14) (h3 : x1 = 3) (hp : ¬ fS_place 4 zz3 x2 = (-1)) : CC yP_count prog_1_method_9_code 4 [.int x1, .int x2] x (x) (fP_count3 x.2.2.2.2.2.2.1 x.2.2.2.2.2.2.2.1 x.2.2.1 x2) := by
  intro l dC dI sz ao at3 am3 as3 ab3 az3 at4 am4 as4 ab4 az4 ag aj ap cm3 cs3 cb3 cm4 cs4 cb4 cj cp
  exact Met.toMut (c_fP_count3 l dC dI ao x.1 x.2.1 at3 am3 as3 ab3 az3 cm3 cs3 cb3 x.2.2.2.2.2.2.1 x.2.2.2.2.2.2.2.1 x.2.2.2.2.2.2.2.2.1 at4 am4 as4 ab4 az4 cm4 cs4 cb4 x.2.2.2.2.2.2.2.2.2.1 x.2.2.2.2.2.2.2.2.2.2.1 x.2.2.2.2.2.2.2.2.2.2.2 ag aj ap cj cp x.2.2.1 x.2.2.2.1 x.2.2.2.2.1 x.2.2.2.2.2.1 x1 x2 hn h3 hp) (fun U h => ⟨⟨h.2.1, h.2.2.1⟩, h.2.2.2.2.1, h.2.2.2.2.2.1.narrow (fun _ h => h.elim), h.2.2.2.2.2.2.narrow (fun _ h => h.elim)⟩)
set_option maxHeartbeats 4000000 in
set_option maxRecDepth 100000 in
theorem Cc_fP_count4 (x : CS) (x1 : Int32) (x2 : Int32) (hn : x.2.2.1 ≤ 14) (h4 : x1 = 4) (hp : ¬ fS_place 11 zz4 x2 = (-1)) : CC yP_count prog_1_method_9_code 4 [.int x1, .int x2] x (x) (fP_count4 x.2.2.2.2.2.2.2.2.2.1 x.2.2.2.2.2.2.2.2.2.2.1 x.2.2.1 x2) := by
  intro l dC dI sz ao at3 am3 as3 ab3 az3 at4 am4 as4 ab4 az4 ag aj ap cm3 cs3 cb3 cm4 cs4 cb4 cj cp
  exact Met.toMut (c_fP_count4 l dC dI ao x.1 x.2.1 at3 am3 as3 ab3 az3 cm3 cs3 cb3 x.2.2.2.2.2.2.1 x.2.2.2.2.2.2.2.1 x.2.2.2.2.2.2.2.2.1 at4 am4 as4 ab4 az4 cm4 cs4 cb4 x.2.2.2.2.2.2.2.2.2.1 x.2.2.2.2.2.2.2.2.2.2.1 x.2.2.2.2.2.2.2.2.2.2.2 ag aj ap cj cp x.2.2.1 x.2.2.2.1 x.2.2.2.2.1 x.2.2.2.2.2.1 x1 x2 hn h4 hp) (fun U h => ⟨⟨h.2.1, h.2.2.1⟩, h.2.2.2.2.1, h.2.2.2.2.2.1.narrow (fun _ h => h.elim), h.2.2.2.2.2.2.narrow (fun _ h => h.elim)⟩)
set_option maxHeartbeats 4000000 in
set_option maxRecDepth 100000 in
theorem Cc_fP_count0 (x : CS) (x1 : Int32) (x2 : Int32) (hn : x.2.2.1 ≤ 14) (h0 : badSS x1 x2) : CC yP_count prog_1_method_9_code 4 [.int x1, .int x2] x (x) (fP_count0) := by
  intro l dC dI sz ao at3 am3 as3 ab3 az3 at4 am4 as4 ab4 az4 ag aj ap cm3 cs3 cb3 cm4 cs4 cb4 cj cp
  exact Met.toMut (c_fP_count0 l dC dI ao x.1 x.2.1 at3 am3 as3 ab3 az3 cm3 cs3 cb3 x.2.2.2.2.2.2.1 x.2.2.2.2.2.2.2.1 x.2.2.2.2.2.2.2.2.1 at4 am4 as4 ab4 az4 cm4 cs4 cb4 x.2.2.2.2.2.2.2.2.2.1 x.2.2.2.2.2.2.2.2.2.2.1 x.2.2.2.2.2.2.2.2.2.2.2 ag aj ap cj cp x.2.2.1 x.2.2.2.1 x.2.2.2.2.1 x.2.2.2.2.2.1 x1 x2 hn h0) (fun U h => ⟨⟨h.2.1, h.2.2.1⟩, h.2.2.2.2.1, h.2.2.2.2.2.1.narrow (fun _ h => h.elim), h.2.2.2.2.2.2.narrow (fun _ h => h.elim)⟩)
set_option maxHeartbeats 4000000 in
set_option maxRecDepth 100000 in
theorem Cc_fP_placed3 (x : CS) (x1 : Int32) (x2 : Int32) (x3 : Int32) (x4 : Int32) (hn : x.2.2.1 ≤ 14) (h3 : x1 = 3) (hp : ¬ fS_place 4 zz3 x2 = (-1)) : CC yP_placed prog_1_method_10_code 6 [.int x1, .int x2, .int x3, .int x4] x (x) (fP_placed3 x.2.2.2.2.2.2.1 x.2.2.2.2.2.2.2.1 x.2.2.1 x.2.2.2.2.1 x2 x3 x4) := by
  intro l dC dI sz ao at3 am3 as3 ab3 az3 at4 am4 as4 ab4 az4 ag aj ap cm3 cs3 cb3 cm4 cs4 cb4 cj cp
  exact Met.toMut (c_fP_placed3 l dC dI ao x.1 x.2.1 at3 am3 as3 ab3 az3 cm3 cs3 cb3 x.2.2.2.2.2.2.1 x.2.2.2.2.2.2.2.1 x.2.2.2.2.2.2.2.2.1 at4 am4 as4 ab4 az4 cm4 cs4 cb4 x.2.2.2.2.2.2.2.2.2.1 x.2.2.2.2.2.2.2.2.2.2.1 x.2.2.2.2.2.2.2.2.2.2.2 ag aj ap cj cp x.2.2.1 x.2.2.2.1 x.2.2.2.2.1 x.2.2.2.2.2.1 x1 x2 x3 x4 hn h3 hp) (fun U h => ⟨⟨h.2.1, h.2.2.1⟩, h.2.2.2.2.1, h.2.2.2.2.2.1.narrow (fun _ h => h.elim), h.2.2.2.2.2.2.narrow (fun _ h => h.elim)⟩)
set_option maxHeartbeats 4000000 in
set_option maxRecDepth 100000 in
theorem Cc_fP_placed4 (x : CS) (x1 : Int32) (x2 : Int32) (x3 : Int32) (x4 : Int32) (hn : x.2.2.1 ≤ 14) (h4 : x1 = 4) (hp : ¬ fS_place 11 zz4 x2 = (-1)) : CC yP_placed prog_1_method_10_code 6 [.int x1, .int x2, .int x3, .int x4] x (x) (fP_placed4 x.2.2.2.2.2.2.2.2.2.1 x.2.2.2.2.2.2.2.2.2.2.1 x.2.2.1 x.2.2.2.2.1 x2 x3 x4) := by
  intro l dC dI sz ao at3 am3 as3 ab3 az3 at4 am4 as4 ab4 az4 ag aj ap cm3 cs3 cb3 cm4 cs4 cb4 cj cp
  exact Met.toMut (c_fP_placed4 l dC dI ao x.1 x.2.1 at3 am3 as3 ab3 az3 cm3 cs3 cb3 x.2.2.2.2.2.2.1 x.2.2.2.2.2.2.2.1 x.2.2.2.2.2.2.2.2.1 at4 am4 as4 ab4 az4 cm4 cs4 cb4 x.2.2.2.2.2.2.2.2.2.1 x.2.2.2.2.2.2.2.2.2.2.1 x.2.2.2.2.2.2.2.2.2.2.2 ag aj ap cj cp x.2.2.1 x.2.2.2.1 x.2.2.2.2.1 x.2.2.2.2.2.1 x1 x2 x3 x4 hn h4 hp) (fun U h => ⟨⟨h.2.1, h.2.2.1⟩, h.2.2.2.2.1, h.2.2.2.2.2.1.narrow (fun _ h => h.elim), h.2.2.2.2.2.2.narrow (fun _ h => h.elim)⟩)
set_option maxHeartbeats 4000000 in
set_option maxRecDepth 100000 in
theorem Cc_fP_placed0 (x : CS) (x1 : Int32) (x2 : Int32) (x3 : Int32) (x4 : Int32) (hn : x.2.2.1 ≤ 14) (h0 : badSS x1 x2) : CC yP_placed prog_1_method_10_code 6 [.int x1, .int x2, .int x3, .int x4] x (x) (fP_placed0) := by
  intro l dC dI sz ao at3 am3 as3 ab3 az3 at4 am4 as4 ab4 az4 ag aj ap cm3 cs3 cb3 cm4 cs4 cb4 cj cp
  exact Met.toMut (c_fP_placed0 l dC dI ao x.1 x.2.1 at3 am3 as3 ab3 az3 cm3 cs3 cb3 x.2.2.2.2.2.2.1 x.2.2.2.2.2.2.2.1 x.2.2.2.2.2.2.2.2.1 at4 am4 as4 ab4 az4 cm4 cs4 cb4 x.2.2.2.2.2.2.2.2.2.1 x.2.2.2.2.2.2.2.2.2.2.1 x.2.2.2.2.2.2.2.2.2.2.2 ag aj ap cj cp x.2.2.1 x.2.2.2.1 x.2.2.2.2.1 x.2.2.2.2.2.1 x1 x2 x3 x4 hn h0) (fun U h => ⟨⟨h.2.1, h.2.2.1⟩, h.2.2.2.2.1, h.2.2.2.2.2.1.narrow (fun _ h => h.elim), h.2.2.2.2.2.2.narrow (fun _ h => h.elim)⟩)
set_option maxHeartbeats 4000000 in
set_option maxRecDepth 100000 in
theorem Cc_fP_pair3 (x : CS) (x1 : Int32) (x2 : Int32) (x3 : Int32) (x4 : Int32) (hn : x.2.2.1 ≤ 14) (h3 : x1 = 3) (hp : ¬ fS_place 4 zz3 x2 = (-1)) : CC yP_pair prog_1_method_11_code 7 [.int x1, .int x2, .int x3, .int x4] x (x) (fP_pair3 x.2.2.2.2.2.2.1 x.2.2.2.2.2.2.2.1 x.2.2.1 x2 x3 x4) := by
  intro l dC dI sz ao at3 am3 as3 ab3 az3 at4 am4 as4 ab4 az4 ag aj ap cm3 cs3 cb3 cm4 cs4 cb4 cj cp
  exact Met.toMut (c_fP_pair3 l dC dI ao x.1 x.2.1 at3 am3 as3 ab3 az3 cm3 cs3 cb3 x.2.2.2.2.2.2.1 x.2.2.2.2.2.2.2.1 x.2.2.2.2.2.2.2.2.1 at4 am4 as4 ab4 az4 cm4 cs4 cb4 x.2.2.2.2.2.2.2.2.2.1 x.2.2.2.2.2.2.2.2.2.2.1 x.2.2.2.2.2.2.2.2.2.2.2 ag aj ap cj cp x.2.2.1 x.2.2.2.1 x.2.2.2.2.1 x.2.2.2.2.2.1 x1 x2 x3 x4 hn h3 hp) (fun U h => ⟨⟨h.2.1, h.2.2.1⟩, h.2.2.2.2.1, h.2.2.2.2.2.1.narrow (fun _ h => h.elim), h.2.2.2.2.2.2.narrow (fun _ h => h.elim)⟩)
set_option maxHeartbeats 4000000 in
set_option maxRecDepth 100000 in
theorem Cc_fP_pair4 (x : CS) (x1 : Int32) (x2 : Int32) (x3 : Int32) (x4 : Int32) (hn : x.2.2.1 ≤ 14) (h4 : x1 = 4) (hp : ¬ fS_place 11 zz4 x2 = (-1)) : CC yP_pair prog_1_method_11_code 7 [.int x1, .int x2, .int x3, .int x4] x (x) (fP_pair4 x.2.2.2.2.2.2.2.2.2.1 x.2.2.2.2.2.2.2.2.2.2.1 x.2.2.1 x2 x3 x4) := by
  intro l dC dI sz ao at3 am3 as3 ab3 az3 at4 am4 as4 ab4 az4 ag aj ap cm3 cs3 cb3 cm4 cs4 cb4 cj cp
  exact Met.toMut (c_fP_pair4 l dC dI ao x.1 x.2.1 at3 am3 as3 ab3 az3 cm3 cs3 cb3 x.2.2.2.2.2.2.1 x.2.2.2.2.2.2.2.1 x.2.2.2.2.2.2.2.2.1 at4 am4 as4 ab4 az4 cm4 cs4 cb4 x.2.2.2.2.2.2.2.2.2.1 x.2.2.2.2.2.2.2.2.2.2.1 x.2.2.2.2.2.2.2.2.2.2.2 ag aj ap cj cp x.2.2.1 x.2.2.2.1 x.2.2.2.2.1 x.2.2.2.2.2.1 x1 x2 x3 x4 hn h4 hp) (fun U h => ⟨⟨h.2.1, h.2.2.1⟩, h.2.2.2.2.1, h.2.2.2.2.2.1.narrow (fun _ h => h.elim), h.2.2.2.2.2.2.narrow (fun _ h => h.elim)⟩)
set_option maxHeartbeats 4000000 in
set_option maxRecDepth 100000 in
theorem Cc_fP_pair0 (x : CS) (x1 : Int32) (x2 : Int32) (x3 : Int32) (x4 : Int32) (hn : x.2.2.1 ≤ 14) (h0 : badSS x1 x2) : CC yP_pair prog_1_method_11_code 7 [.int x1, .int x2, .int x3, .int x4] x (x) (fP_pair0) := by
  intro l dC dI sz ao at3 am3 as3 ab3 az3 at4 am4 as4 ab4 az4 ag aj ap cm3 cs3 cb3 cm4 cs4 cb4 cj cp
  exact Met.toMut (c_fP_pair0 l dC dI ao x.1 x.2.1 at3 am3 as3 ab3 az3 cm3 cs3 cb3 x.2.2.2.2.2.2.1 x.2.2.2.2.2.2.2.1 x.2.2.2.2.2.2.2.2.1 at4 am4 as4 ab4 az4 cm4 cs4 cb4 x.2.2.2.2.2.2.2.2.2.1 x.2.2.2.2.2.2.2.2.2.2.1 x.2.2.2.2.2.2.2.2.2.2.2 ag aj ap cj cp x.2.2.1 x.2.2.2.1 x.2.2.2.2.1 x.2.2.2.2.2.1 x1 x2 x3 x4 hn h0) (fun U h => ⟨⟨h.2.1, h.2.2.1⟩, h.2.2.2.2.1, h.2.2.2.2.2.1.narrow (fun _ h => h.elim), h.2.2.2.2.2.2.narrow (fun _ h => h.elim)⟩)
set_option maxHeartbeats 4000000 in
set_option maxRecDepth 100000 in
theorem Cc_fP_coloured3 (x : CS) (x1 : Int32) (x2 : Int32) (x3 : Int32) (hn : x.2.2.1 ≤ 14) (h3 : x1 = 3) (hp : ¬ fS_place 4 zz3 x2 = (-1)) : CC yP_coloured prog_1_method_12_code 5 [.int x1, .int x2, .int x3] x (x) (fP_coloured3 x.2.2.2.2.2.2.1 x.2.2.2.2.2.2.2.1 x.2.2.2.2.2.1 x2 x3) := by
  intro l dC dI sz ao at3 am3 as3 ab3 az3 at4 am4 as4 ab4 az4 ag aj ap cm3 cs3 cb3 cm4 cs4 cb4 cj cp
  exact Met.toMut (c_fP_coloured3 l dC dI ao x.1 x.2.1 at3 am3 as3 ab3 az3 cm3 cs3 cb3 x.2.2.2.2.2.2.1 x.2.2.2.2.2.2.2.1 x.2.2.2.2.2.2.2.2.1 at4 am4 as4 ab4 az4 cm4 cs4 cb4 x.2.2.2.2.2.2.2.2.2.1 x.2.2.2.2.2.2.2.2.2.2.1 x.2.2.2.2.2.2.2.2.2.2.2 ag aj ap cj cp x.2.2.1 x.2.2.2.1 x.2.2.2.2.1 x.2.2.2.2.2.1 x1 x2 x3 hn h3 hp) (fun U h => ⟨⟨h.2.1, h.2.2.1⟩, h.2.2.2.2.1, h.2.2.2.2.2.1.narrow (fun _ h => h.elim), h.2.2.2.2.2.2.narrow (fun _ h => h.elim)⟩)
set_option maxHeartbeats 4000000 in
set_option maxRecDepth 100000 in
theorem Cc_fP_coloured4 (x : CS) (x1 : Int32) (x2 : Int32) (x3 : Int32) (hn : x.2.2.1 ≤ 14) (h4 : x1 = 4) (hp : ¬ fS_place 11 zz4 x2 = (-1)) : CC yP_coloured prog_1_method_12_code 5 [.int x1, .int x2, .int x3] x (x) (fP_coloured4 x.2.2.2.2.2.2.2.2.2.1 x.2.2.2.2.2.2.2.2.2.2.1 x.2.2.2.2.2.1 x2 x3) := by
  intro l dC dI sz ao at3 am3 as3 ab3 az3 at4 am4 as4 ab4 az4 ag aj ap cm3 cs3 cb3 cm4 cs4 cb4 cj cp
  exact Met.toMut (c_fP_coloured4 l dC dI ao x.1 x.2.1 at3 am3 as3 ab3 az3 cm3 cs3 cb3 x.2.2.2.2.2.2.1 x.2.2.2.2.2.2.2.1 x.2.2.2.2.2.2.2.2.1 at4 am4 as4 ab4 az4 cm4 cs4 cb4 x.2.2.2.2.2.2.2.2.2.1 x.2.2.2.2.2.2.2.2.2.2.1 x.2.2.2.2.2.2.2.2.2.2.2 ag aj ap cj cp x.2.2.1 x.2.2.2.1 x.2.2.2.2.1 x.2.2.2.2.2.1 x1 x2 x3 hn h4 hp) (fun U h => ⟨⟨h.2.1, h.2.2.1⟩, h.2.2.2.2.1, h.2.2.2.2.2.1.narrow (fun _ h => h.elim), h.2.2.2.2.2.2.narrow (fun _ h => h.elim)⟩)
set_option maxHeartbeats 4000000 in
set_option maxRecDepth 100000 in
theorem Cc_fP_coloured0 (x : CS) (x1 : Int32) (x2 : Int32) (x3 : Int32) (hn : x.2.2.1 ≤ 14) (h0 : badSS x1 x2) : CC yP_coloured prog_1_method_12_code 5 [.int x1, .int x2, .int x3] x (x) (fP_coloured0) := by
  intro l dC dI sz ao at3 am3 as3 ab3 az3 at4 am4 as4 ab4 az4 ag aj ap cm3 cs3 cb3 cm4 cs4 cb4 cj cp
  exact Met.toMut (c_fP_coloured0 l dC dI ao x.1 x.2.1 at3 am3 as3 ab3 az3 cm3 cs3 cb3 x.2.2.2.2.2.2.1 x.2.2.2.2.2.2.2.1 x.2.2.2.2.2.2.2.2.1 at4 am4 as4 ab4 az4 cm4 cs4 cb4 x.2.2.2.2.2.2.2.2.2.1 x.2.2.2.2.2.2.2.2.2.2.1 x.2.2.2.2.2.2.2.2.2.2.2 ag aj ap cj cp x.2.2.1 x.2.2.2.1 x.2.2.2.2.1 x.2.2.2.2.2.1 x1 x2 x3 hn h0) (fun U h => ⟨⟨h.2.1, h.2.2.1⟩, h.2.2.2.2.1, h.2.2.2.2.2.1.narrow (fun _ h => h.elim), h.2.2.2.2.2.2.narrow (fun _ h => h.elim)⟩)
set_option maxHeartbeats 4000000 in
set_option maxRecDepth 100000 in
theorem Cc_fP_mixed3 (x : CS) (x1 : Int32) (x2 : Int32) (hn : x.2.2.1 ≤ 14) (h3 : x1 = 3) (hp : ¬ fS_place 4 zz3 x2 = (-1)) : CC yP_mixed prog_1_method_13_code 4 [.int x1, .int x2] x (x) (fP_mixed3 x.2.2.2.2.2.2.1 x.2.2.2.2.2.2.2.1 x.2.2.1 x.2.2.2.2.2.1 x2) := by
  intro l dC dI sz ao at3 am3 as3 ab3 az3 at4 am4 as4 ab4 az4 ag aj ap cm3 cs3 cb3 cm4 cs4 cb4 cj cp
  exact Met.toMut (c_fP_mixed3 l dC dI ao x.1 x.2.1 at3 am3 as3 ab3 az3 cm3 cs3 cb3 x.2.2.2.2.2.2.1 x.2.2.2.2.2.2.2.1 x.2.2.2.2.2.2.2.2.1 at4 am4 as4 ab4 az4 cm4 cs4 cb4 x.2.2.2.2.2.2.2.2.2.1 x.2.2.2.2.2.2.2.2.2.2.1 x.2.2.2.2.2.2.2.2.2.2.2 ag aj ap cj cp x.2.2.1 x.2.2.2.1 x.2.2.2.2.1 x.2.2.2.2.2.1 x1 x2 hn h3 hp) (fun U h => ⟨⟨h.2.1, h.2.2.1⟩, h.2.2.2.2.1, h.2.2.2.2.2.1.narrow (fun _ h => h.elim), h.2.2.2.2.2.2.narrow (fun _ h => h.elim)⟩)
set_option maxHeartbeats 4000000 in
set_option maxRecDepth 100000 in
theorem Cc_fP_mixed4 (x : CS) (x1 : Int32) (x2 : Int32) (hn : x.2.2.1 ≤ 14) (h4 : x1 = 4) (hp : ¬ fS_place 11 zz4 x2 = (-1)) : CC yP_mixed prog_1_method_13_code 4 [.int x1, .int x2] x (x) (fP_mixed4 x.2.2.2.2.2.2.2.2.2.1 x.2.2.2.2.2.2.2.2.2.2.1 x.2.2.1 x.2.2.2.2.2.1 x2) := by
  intro l dC dI sz ao at3 am3 as3 ab3 az3 at4 am4 as4 ab4 az4 ag aj ap cm3 cs3 cb3 cm4 cs4 cb4 cj cp
  exact Met.toMut (c_fP_mixed4 l dC dI ao x.1 x.2.1 at3 am3 as3 ab3 az3 cm3 cs3 cb3 x.2.2.2.2.2.2.1 x.2.2.2.2.2.2.2.1 x.2.2.2.2.2.2.2.2.1 at4 am4 as4 ab4 az4 cm4 cs4 cb4 x.2.2.2.2.2.2.2.2.2.1 x.2.2.2.2.2.2.2.2.2.2.1 x.2.2.2.2.2.2.2.2.2.2.2 ag aj ap cj cp x.2.2.1 x.2.2.2.1 x.2.2.2.2.1 x.2.2.2.2.2.1 x1 x2 hn h4 hp) (fun U h => ⟨⟨h.2.1, h.2.2.1⟩, h.2.2.2.2.1, h.2.2.2.2.2.1.narrow (fun _ h => h.elim), h.2.2.2.2.2.2.narrow (fun _ h => h.elim)⟩)
set_option maxHeartbeats 4000000 in
set_option maxRecDepth 100000 in
theorem Cc_fP_mixed0 (x : CS) (x1 : Int32) (x2 : Int32) (hn : x.2.2.1 ≤ 14) (h0 : badSS x1 x2) : CC yP_mixed prog_1_method_13_code 4 [.int x1, .int x2] x (x) (fP_mixed0) := by
  intro l dC dI sz ao at3 am3 as3 ab3 az3 at4 am4 as4 ab4 az4 ag aj ap cm3 cs3 cb3 cm4 cs4 cb4 cj cp
  exact Met.toMut (c_fP_mixed0 l dC dI ao x.1 x.2.1 at3 am3 as3 ab3 az3 cm3 cs3 cb3 x.2.2.2.2.2.2.1 x.2.2.2.2.2.2.2.1 x.2.2.2.2.2.2.2.2.1 at4 am4 as4 ab4 az4 cm4 cs4 cb4 x.2.2.2.2.2.2.2.2.2.1 x.2.2.2.2.2.2.2.2.2.2.1 x.2.2.2.2.2.2.2.2.2.2.2 ag aj ap cj cp x.2.2.1 x.2.2.2.1 x.2.2.2.2.1 x.2.2.2.2.2.1 x1 x2 hn h0) (fun U h => ⟨⟨h.2.1, h.2.2.1⟩, h.2.2.2.2.1, h.2.2.2.2.2.1.narrow (fun _ h => h.elim), h.2.2.2.2.2.2.narrow (fun _ h => h.elim)⟩)
set_option maxHeartbeats 4000000 in
set_option maxRecDepth 100000 in
theorem Cc_fP_nth3 (x : CS) (x1 : Int32) (x2 : Int32) (x3 : Int32) (x4 : Int32) (hn : x.2.2.1 ≤ 14) (h3 : x1 = 3) (hp : ¬ fS_place 4 zz3 x2 = (-1)) : CC yP_nth prog_1_method_16_code 6 [.int x1, .int x2, .int x3, .int x4] x (x) (fP_nth3 x.2.2.2.2.2.2.1 x.2.2.2.2.2.2.2.1 x.2.2.1 x2 x3 x4) := by
  intro l dC dI sz ao at3 am3 as3 ab3 az3 at4 am4 as4 ab4 az4 ag aj ap cm3 cs3 cb3 cm4 cs4 cb4 cj cp
  exact Met.toMut (c_fP_nth3 l dC dI ao x.1 x.2.1 at3 am3 as3 ab3 az3 cm3 cs3 cb3 x.2.2.2.2.2.2.1 x.2.2.2.2.2.2.2.1 x.2.2.2.2.2.2.2.2.1 at4 am4 as4 ab4 az4 cm4 cs4 cb4 x.2.2.2.2.2.2.2.2.2.1 x.2.2.2.2.2.2.2.2.2.2.1 x.2.2.2.2.2.2.2.2.2.2.2 ag aj ap cj cp x.2.2.1 x.2.2.2.1 x.2.2.2.2.1 x.2.2.2.2.2.1 x1 x2 x3 x4 hn h3 hp) (fun U h => ⟨⟨h.2.1, h.2.2.1⟩, h.2.2.2.2.1, h.2.2.2.2.2.1.narrow (fun _ h => h.elim), h.2.2.2.2.2.2.narrow (fun _ h => h.elim)⟩)
set_option maxHeartbeats 4000000 in
set_option maxRecDepth 100000 in
theorem Cc_fP_nth4 (x : CS) (x1 : Int32) (x2 : Int32) (x3 : Int32) (x4 : Int32) (hn : x.2.2.1 ≤ 14) (h4 : x1 = 4) (hp : ¬ fS_place 11 zz4 x2 = (-1)) : CC yP_nth prog_1_method_16_code 6 [.int x1, .int x2, .int x3, .int x4] x (x) (fP_nth4 x.2.2.2.2.2.2.2.2.2.1 x.2.2.2.2.2.2.2.2.2.2.1 x.2.2.1 x2 x3 x4) := by
  intro l dC dI sz ao at3 am3 as3 ab3 az3 at4 am4 as4 ab4 az4 ag aj ap cm3 cs3 cb3 cm4 cs4 cb4 cj cp
  exact Met.toMut (c_fP_nth4 l dC dI ao x.1 x.2.1 at3 am3 as3 ab3 az3 cm3 cs3 cb3 x.2.2.2.2.2.2.1 x.2.2.2.2.2.2.2.1 x.2.2.2.2.2.2.2.2.1 at4 am4 as4 ab4 az4 cm4 cs4 cb4 x.2.2.2.2.2.2.2.2.2.1 x.2.2.2.2.2.2.2.2.2.2.1 x.2.2.2.2.2.2.2.2.2.2.2 ag aj ap cj cp x.2.2.1 x.2.2.2.1 x.2.2.2.2.1 x.2.2.2.2.2.1 x1 x2 x3 x4 hn h4 hp) (fun U h => ⟨⟨h.2.1, h.2.2.1⟩, h.2.2.2.2.1, h.2.2.2.2.2.1.narrow (fun _ h => h.elim), h.2.2.2.2.2.2.narrow (fun _ h => h.elim)⟩)
set_option maxHeartbeats 4000000 in
set_option maxRecDepth 100000 in
theorem Cc_fP_nth0 (x : CS) (x1 : Int32) (x2 : Int32) (x3 : Int32) (x4 : Int32) (hn : x.2.2.1 ≤ 14) (h0 : badSS x1 x2) : CC yP_nth prog_1_method_16_code 6 [.int x1, .int x2, .int x3, .int x4] x (x) (fP_nth0) := by
  intro l dC dI sz ao at3 am3 as3 ab3 az3 at4 am4 as4 ab4 az4 ag aj ap cm3 cs3 cb3 cm4 cs4 cb4 cj cp
  exact Met.toMut (c_fP_nth0 l dC dI ao x.1 x.2.1 at3 am3 as3 ab3 az3 cm3 cs3 cb3 x.2.2.2.2.2.2.1 x.2.2.2.2.2.2.2.1 x.2.2.2.2.2.2.2.2.1 at4 am4 as4 ab4 az4 cm4 cs4 cb4 x.2.2.2.2.2.2.2.2.2.1 x.2.2.2.2.2.2.2.2.2.2.1 x.2.2.2.2.2.2.2.2.2.2.2 ag aj ap cj cp x.2.2.1 x.2.2.2.1 x.2.2.2.2.1 x.2.2.2.2.2.1 x1 x2 x3 x4 hn h0) (fun U h => ⟨⟨h.2.1, h.2.2.1⟩, h.2.2.2.2.1, h.2.2.2.2.2.1.narrow (fun _ h => h.elim), h.2.2.2.2.2.2.narrow (fun _ h => h.elim)⟩)
set_option maxHeartbeats 4000000 in
set_option maxRecDepth 100000 in
theorem Cc_fP_sort (x : CS) (x1 : Int32) (x2 : Int32) (x3 : Int32) (x4 : Int32) (hn : x.2.2.1 ≤ 14) : CC yP_sort prog_1_method_17_code 6 [.int x1, .int x2, .int x3, .int x4] x (x) (fP_sort x.2.2.1 x.2.2.2.2.1 x1 x2 x3 x4) := by
  intro l dC dI sz ao at3 am3 as3 ab3 az3 at4 am4 as4 ab4 az4 ag aj ap cm3 cs3 cb3 cm4 cs4 cb4 cj cp
  exact Met.toMut (c_fP_sort l dC dI ao x.1 x.2.1 at3 am3 as3 ab3 az3 cm3 cs3 cb3 x.2.2.2.2.2.2.1 x.2.2.2.2.2.2.2.1 x.2.2.2.2.2.2.2.2.1 at4 am4 as4 ab4 az4 cm4 cs4 cb4 x.2.2.2.2.2.2.2.2.2.1 x.2.2.2.2.2.2.2.2.2.2.1 x.2.2.2.2.2.2.2.2.2.2.2 ag aj ap cj cp x.2.2.1 x.2.2.2.1 x.2.2.2.2.1 x.2.2.2.2.2.1 x1 x2 x3 x4 hn) (fun U h => ⟨⟨h.2.1, h.2.2.1⟩, h.2.2.2.2.1⟩)
set_option maxHeartbeats 4000000 in
set_option maxRecDepth 100000 in
theorem Cc_fP_rank (x : CS) (x1 : Int32) (x2 : Int32) (x3 : Int32) (x4 : Int32) (hn : x.2.2.1 ≤ 14) : CC yP_rank prog_1_method_18_code 6 [.int x1, .int x2, .int x3, .int x4] x (x) (fP_rank x.2.2.2.2.2.2.1 x.2.2.2.2.2.2.2.1 x.2.2.2.2.2.2.2.2.2.1 x.2.2.2.2.2.2.2.2.2.2.1 x.2.2.1 x.2.2.2.2.1 x1 x2 x3 x4) := by
  intro l dC dI sz ao at3 am3 as3 ab3 az3 at4 am4 as4 ab4 az4 ag aj ap cm3 cs3 cb3 cm4 cs4 cb4 cj cp
  exact Met.toMut (c_fP_rank l dC dI ao x.1 x.2.1 at3 am3 as3 ab3 az3 cm3 cs3 cb3 x.2.2.2.2.2.2.1 x.2.2.2.2.2.2.2.1 x.2.2.2.2.2.2.2.2.1 at4 am4 as4 ab4 az4 cm4 cs4 cb4 x.2.2.2.2.2.2.2.2.2.1 x.2.2.2.2.2.2.2.2.2.2.1 x.2.2.2.2.2.2.2.2.2.2.2 ag aj ap cj cp x.2.2.1 x.2.2.2.1 x.2.2.2.2.1 x.2.2.2.2.2.1 x1 x2 x3 x4 hn) (fun U h => ⟨⟨h.2.1, h.2.2.1⟩, h.2.2.2.2.1⟩)
set_option maxHeartbeats 4000000 in
set_option maxRecDepth 100000 in
theorem Cc_fP_rings3 (x : CS) (x1 : Int32) (hn : x.2.2.1 ≤ 14) (hk : x1 = 3) : CC yP_rings prog_1_method_21_code 5 [.int x1] x (x) (fP_rings3 x.2.2.1 x.2.2.2.2.1) := by
  intro l dC dI sz ao at3 am3 as3 ab3 az3 at4 am4 as4 ab4 az4 ag aj ap cm3 cs3 cb3 cm4 cs4 cb4 cj cp
  exact Met.toMut (c_fP_rings3 l dC dI ao x.1 x.2.1 at3 am3 as3 ab3 az3 cm3 cs3 cb3 x.2.2.2.2.2.2.1 x.2.2.2.2.2.2.2.1 x.2.2.2.2.2.2.2.2.1 at4 am4 as4 ab4 az4 cm4 cs4 cb4 x.2.2.2.2.2.2.2.2.2.1 x.2.2.2.2.2.2.2.2.2.2.1 x.2.2.2.2.2.2.2.2.2.2.2 ag aj ap cj cp x.2.2.1 x.2.2.2.1 x.2.2.2.2.1 x.2.2.2.2.2.1 x1 hn hk) (fun U h => ⟨⟨h.2.1, h.2.2.1⟩, h.2.2.2.2.1⟩)
set_option maxHeartbeats 4000000 in
set_option maxRecDepth 100000 in
theorem Cc_fP_ringsBy3 (x : CS) (x1 : Int32) (x2 : Int32) (hn : x.2.2.1 ≤ 14) (hk : x1 = 3) : CC yP_ringsBy prog_1_method_22_code 3 [.int x1, .int x2] x (x) (fP_ringsBy3 x.2.2.1 x.2.2.2.2.1 x2) := by
  intro l dC dI sz ao at3 am3 as3 ab3 az3 at4 am4 as4 ab4 az4 ag aj ap cm3 cs3 cb3 cm4 cs4 cb4 cj cp
  exact Met.toMut (c_fP_ringsBy3 l dC dI ao x.1 x.2.1 at3 am3 as3 ab3 az3 cm3 cs3 cb3 x.2.2.2.2.2.2.1 x.2.2.2.2.2.2.2.1 x.2.2.2.2.2.2.2.2.1 at4 am4 as4 ab4 az4 cm4 cs4 cb4 x.2.2.2.2.2.2.2.2.2.1 x.2.2.2.2.2.2.2.2.2.2.1 x.2.2.2.2.2.2.2.2.2.2.2 ag aj ap cj cp x.2.2.1 x.2.2.2.1 x.2.2.2.2.1 x.2.2.2.2.2.1 x1 x2 hn hk) (fun U h => ⟨⟨h.2.1, h.2.2.1⟩, h.2.2.2.2.1⟩)
set_option maxHeartbeats 4000000 in
set_option maxRecDepth 100000 in
theorem Cc_fP_rings4 (x : CS) (x1 : Int32) (hn : x.2.2.1 ≤ 14) (hk : x1 = 4) : CC yP_rings prog_1_method_21_code 5 [.int x1] x (x) (fP_rings4 x.2.2.1 x.2.2.2.2.1) := by
  intro l dC dI sz ao at3 am3 as3 ab3 az3 at4 am4 as4 ab4 az4 ag aj ap cm3 cs3 cb3 cm4 cs4 cb4 cj cp
  exact Met.toMut (c_fP_rings4 l dC dI ao x.1 x.2.1 at3 am3 as3 ab3 az3 cm3 cs3 cb3 x.2.2.2.2.2.2.1 x.2.2.2.2.2.2.2.1 x.2.2.2.2.2.2.2.2.1 at4 am4 as4 ab4 az4 cm4 cs4 cb4 x.2.2.2.2.2.2.2.2.2.1 x.2.2.2.2.2.2.2.2.2.2.1 x.2.2.2.2.2.2.2.2.2.2.2 ag aj ap cj cp x.2.2.1 x.2.2.2.1 x.2.2.2.2.1 x.2.2.2.2.2.1 x1 hn hk) (fun U h => ⟨⟨h.2.1, h.2.2.1⟩, h.2.2.2.2.1⟩)
set_option maxHeartbeats 4000000 in
set_option maxRecDepth 100000 in
theorem Cc_fP_ringsBy4 (x : CS) (x1 : Int32) (x2 : Int32) (hn : x.2.2.1 ≤ 14) (hk : x1 = 4) : CC yP_ringsBy prog_1_method_22_code 3 [.int x1, .int x2] x (x) (fP_ringsBy4 x.2.2.1 x.2.2.2.2.1 x2) := by
  intro l dC dI sz ao at3 am3 as3 ab3 az3 at4 am4 as4 ab4 az4 ag aj ap cm3 cs3 cb3 cm4 cs4 cb4 cj cp
  exact Met.toMut (c_fP_ringsBy4 l dC dI ao x.1 x.2.1 at3 am3 as3 ab3 az3 cm3 cs3 cb3 x.2.2.2.2.2.2.1 x.2.2.2.2.2.2.2.1 x.2.2.2.2.2.2.2.2.1 at4 am4 as4 ab4 az4 cm4 cs4 cb4 x.2.2.2.2.2.2.2.2.2.1 x.2.2.2.2.2.2.2.2.2.2.1 x.2.2.2.2.2.2.2.2.2.2.2 ag aj ap cj cp x.2.2.1 x.2.2.2.1 x.2.2.2.2.1 x.2.2.2.2.2.1 x1 x2 hn hk) (fun U h => ⟨⟨h.2.1, h.2.2.1⟩, h.2.2.2.2.1⟩)
set_option maxHeartbeats 4000000 in
set_option maxRecDepth 100000 in
theorem Cc_fP_rings5 (x : CS) (x1 : Int32) (hn : x.2.2.1 ≤ 14) (hk : x1 = 5) : CC yP_rings prog_1_method_21_code 5 [.int x1] x (x) (fP_rings5 x.2.2.1 x.2.2.2.2.1) := by
  intro l dC dI sz ao at3 am3 as3 ab3 az3 at4 am4 as4 ab4 az4 ag aj ap cm3 cs3 cb3 cm4 cs4 cb4 cj cp
  exact Met.toMut (c_fP_rings5 l dC dI ao x.1 x.2.1 at3 am3 as3 ab3 az3 cm3 cs3 cb3 x.2.2.2.2.2.2.1 x.2.2.2.2.2.2.2.1 x.2.2.2.2.2.2.2.2.1 at4 am4 as4 ab4 az4 cm4 cs4 cb4 x.2.2.2.2.2.2.2.2.2.1 x.2.2.2.2.2.2.2.2.2.2.1 x.2.2.2.2.2.2.2.2.2.2.2 ag aj ap cj cp x.2.2.1 x.2.2.2.1 x.2.2.2.2.1 x.2.2.2.2.2.1 x1 hn hk) (fun U h => ⟨⟨h.2.1, h.2.2.1⟩, h.2.2.2.2.1⟩)
set_option maxHeartbeats 4000000 in
set_option maxRecDepth 100000 in
theorem Cc_fP_ringsBy5 (x : CS) (x1 : Int32) (x2 : Int32) (hn : x.2.2.1 ≤ 14) (hk : x1 = 5) : CC yP_ringsBy prog_1_method_22_code 3 [.int x1, .int x2] x (x) (fP_ringsBy5 x.2.2.1 x.2.2.2.2.1 x2) := by
  intro l dC dI sz ao at3 am3 as3 ab3 az3 at4 am4 as4 ab4 az4 ag aj ap cm3 cs3 cb3 cm4 cs4 cb4 cj cp
  exact Met.toMut (c_fP_ringsBy5 l dC dI ao x.1 x.2.1 at3 am3 as3 ab3 az3 cm3 cs3 cb3 x.2.2.2.2.2.2.1 x.2.2.2.2.2.2.2.1 x.2.2.2.2.2.2.2.2.1 at4 am4 as4 ab4 az4 cm4 cs4 cb4 x.2.2.2.2.2.2.2.2.2.1 x.2.2.2.2.2.2.2.2.2.2.1 x.2.2.2.2.2.2.2.2.2.2.2 ag aj ap cj cp x.2.2.1 x.2.2.2.1 x.2.2.2.2.1 x.2.2.2.2.2.1 x1 x2 hn hk) (fun U h => ⟨⟨h.2.1, h.2.2.1⟩, h.2.2.2.2.1⟩)
set_option maxHeartbeats 4000000 in
set_option maxRecDepth 100000 in
theorem Cc_fP_rings6 (x : CS) (x1 : Int32) (hn : x.2.2.1 ≤ 14) (hk : x1 = 6) : CC yP_rings prog_1_method_21_code 5 [.int x1] x (x) (fP_rings6 x.2.2.1 x.2.2.2.2.1) := by
  intro l dC dI sz ao at3 am3 as3 ab3 az3 at4 am4 as4 ab4 az4 ag aj ap cm3 cs3 cb3 cm4 cs4 cb4 cj cp
  exact Met.toMut (c_fP_rings6 l dC dI ao x.1 x.2.1 at3 am3 as3 ab3 az3 cm3 cs3 cb3 x.2.2.2.2.2.2.1 x.2.2.2.2.2.2.2.1 x.2.2.2.2.2.2.2.2.1 at4 am4 as4 ab4 az4 cm4 cs4 cb4 x.2.2.2.2.2.2.2.2.2.1 x.2.2.2.2.2.2.2.2.2.2.1 x.2.2.2.2.2.2.2.2.2.2.2 ag aj ap cj cp x.2.2.1 x.2.2.2.1 x.2.2.2.2.1 x.2.2.2.2.2.1 x1 hn hk) (fun U h => ⟨⟨h.2.1, h.2.2.1⟩, h.2.2.2.2.1⟩)
set_option maxHeartbeats 4000000 in
set_option maxRecDepth 100000 in
theorem Cc_fP_ringsBy6 (x : CS) (x1 : Int32) (x2 : Int32) (hn : x.2.2.1 ≤ 14) (hk : x1 = 6) : CC yP_ringsBy prog_1_method_22_code 3 [.int x1, .int x2] x (x) (fP_ringsBy6 x.2.2.1 x.2.2.2.2.1 x2) := by
  intro l dC dI sz ao at3 am3 as3 ab3 az3 at4 am4 as4 ab4 az4 ag aj ap cm3 cs3 cb3 cm4 cs4 cb4 cj cp
  exact Met.toMut (c_fP_ringsBy6 l dC dI ao x.1 x.2.1 at3 am3 as3 ab3 az3 cm3 cs3 cb3 x.2.2.2.2.2.2.1 x.2.2.2.2.2.2.2.1 x.2.2.2.2.2.2.2.2.1 at4 am4 as4 ab4 az4 cm4 cs4 cb4 x.2.2.2.2.2.2.2.2.2.1 x.2.2.2.2.2.2.2.2.2.2.1 x.2.2.2.2.2.2.2.2.2.2.2 ag aj ap cj cp x.2.2.1 x.2.2.2.1 x.2.2.2.2.1 x.2.2.2.2.2.1 x1 x2 hn hk) (fun U h => ⟨⟨h.2.1, h.2.2.1⟩, h.2.2.2.2.1⟩)
set_option maxHeartbeats 4000000 in
set_option maxRecDepth 100000 in
theorem Cc_fP_rings0 (x : CS) (x1 : Int32) (hn : x.2.2.1 ≤ 14) (hk : fP_isRingLength x1 = 0) : CC yP_rings prog_1_method_21_code 5 [.int x1] x (x) (fP_rings0) := by
  intro l dC dI sz ao at3 am3 as3 ab3 az3 at4 am4 as4 ab4 az4 ag aj ap cm3 cs3 cb3 cm4 cs4 cb4 cj cp
  exact Met.toMut (c_fP_rings0 l dC dI ao x.1 x.2.1 at3 am3 as3 ab3 az3 cm3 cs3 cb3 x.2.2.2.2.2.2.1 x.2.2.2.2.2.2.2.1 x.2.2.2.2.2.2.2.2.1 at4 am4 as4 ab4 az4 cm4 cs4 cb4 x.2.2.2.2.2.2.2.2.2.1 x.2.2.2.2.2.2.2.2.2.2.1 x.2.2.2.2.2.2.2.2.2.2.2 ag aj ap cj cp x.2.2.1 x.2.2.2.1 x.2.2.2.2.1 x.2.2.2.2.2.1 x1 hn hk) (fun U h => ⟨⟨h.2.1, h.2.2.1⟩, h.2.2.2.2.1⟩)
set_option maxHeartbeats 4000000 in
set_option maxRecDepth 100000 in
theorem Cc_fP_ringsBy0 (x : CS) (x1 : Int32) (x2 : Int32) (hn : x.2.2.1 ≤ 14) (hk : fP_isRingLength x1 = 0) : CC yP_ringsBy prog_1_method_22_code 3 [.int x1, .int x2] x (x) (fP_ringsBy0) := by
  intro l dC dI sz ao at3 am3 as3 ab3 az3 at4 am4 as4 ab4 az4 ag aj ap cm3 cs3 cb3 cm4 cs4 cb4 cj cp
  exact Met.toMut (c_fP_ringsBy0 l dC dI ao x.1 x.2.1 at3 am3 as3 ab3 az3 cm3 cs3 cb3 x.2.2.2.2.2.2.1 x.2.2.2.2.2.2.2.1 x.2.2.2.2.2.2.2.2.1 at4 am4 as4 ab4 az4 cm4 cs4 cb4 x.2.2.2.2.2.2.2.2.2.1 x.2.2.2.2.2.2.2.2.2.2.1 x.2.2.2.2.2.2.2.2.2.2.2 ag aj ap cj cp x.2.2.1 x.2.2.2.1 x.2.2.2.2.1 x.2.2.2.2.2.1 x1 x2 hn hk) (fun U h => ⟨⟨h.2.1, h.2.2.1⟩, h.2.2.2.2.1⟩)
set_option maxHeartbeats 4000000 in
set_option maxRecDepth 100000 in
theorem Cc_fP_ways1 (x : CS) (x1 : Int32) (x2 : Int32) (x3 : Int32) (hn : x.2.2.1 ≤ 14) (hk : x1 = 1) : CC yP_ways prog_1_method_23_code 5 [.int x1, .int x2, .int x3] x (x) (fP_ways1 x.2.2.1 x.2.2.2.2.1 x2 x3) := by
  intro l dC dI sz ao at3 am3 as3 ab3 az3 at4 am4 as4 ab4 az4 ag aj ap cm3 cs3 cb3 cm4 cs4 cb4 cj cp
  exact Met.toMut (c_fP_ways1 l dC dI ao x.1 x.2.1 at3 am3 as3 ab3 az3 cm3 cs3 cb3 x.2.2.2.2.2.2.1 x.2.2.2.2.2.2.2.1 x.2.2.2.2.2.2.2.2.1 at4 am4 as4 ab4 az4 cm4 cs4 cb4 x.2.2.2.2.2.2.2.2.2.1 x.2.2.2.2.2.2.2.2.2.2.1 x.2.2.2.2.2.2.2.2.2.2.2 ag aj ap cj cp x.2.2.1 x.2.2.2.1 x.2.2.2.2.1 x.2.2.2.2.2.1 x1 x2 x3 hn hk) (fun U h => ⟨⟨h.2.1, h.2.2.1⟩, h.2.2.2.2.1⟩)
set_option maxHeartbeats 4000000 in
set_option maxRecDepth 100000 in
theorem Cc_fP_ways2 (x : CS) (x1 : Int32) (x2 : Int32) (x3 : Int32) (hn : x.2.2.1 ≤ 14) (hk : x1 = 2) : CC yP_ways prog_1_method_23_code 5 [.int x1, .int x2, .int x3] x (x) (fP_ways2 x.2.2.1 x.2.2.2.2.1 x2 x3) := by
  intro l dC dI sz ao at3 am3 as3 ab3 az3 at4 am4 as4 ab4 az4 ag aj ap cm3 cs3 cb3 cm4 cs4 cb4 cj cp
  exact Met.toMut (c_fP_ways2 l dC dI ao x.1 x.2.1 at3 am3 as3 ab3 az3 cm3 cs3 cb3 x.2.2.2.2.2.2.1 x.2.2.2.2.2.2.2.1 x.2.2.2.2.2.2.2.2.1 at4 am4 as4 ab4 az4 cm4 cs4 cb4 x.2.2.2.2.2.2.2.2.2.1 x.2.2.2.2.2.2.2.2.2.2.1 x.2.2.2.2.2.2.2.2.2.2.2 ag aj ap cj cp x.2.2.1 x.2.2.2.1 x.2.2.2.2.1 x.2.2.2.2.2.1 x1 x2 x3 hn hk) (fun U h => ⟨⟨h.2.1, h.2.2.1⟩, h.2.2.2.2.1⟩)
set_option maxHeartbeats 4000000 in
set_option maxRecDepth 100000 in
theorem Cc_fP_ways3 (x : CS) (x1 : Int32) (x2 : Int32) (x3 : Int32) (hn : x.2.2.1 ≤ 14) (hk : x1 = 3) : CC yP_ways prog_1_method_23_code 5 [.int x1, .int x2, .int x3] x (x) (fP_ways3 x.2.2.1 x.2.2.2.2.1 x2 x3) := by
  intro l dC dI sz ao at3 am3 as3 ab3 az3 at4 am4 as4 ab4 az4 ag aj ap cm3 cs3 cb3 cm4 cs4 cb4 cj cp
  exact Met.toMut (c_fP_ways3 l dC dI ao x.1 x.2.1 at3 am3 as3 ab3 az3 cm3 cs3 cb3 x.2.2.2.2.2.2.1 x.2.2.2.2.2.2.2.1 x.2.2.2.2.2.2.2.2.1 at4 am4 as4 ab4 az4 cm4 cs4 cb4 x.2.2.2.2.2.2.2.2.2.1 x.2.2.2.2.2.2.2.2.2.2.1 x.2.2.2.2.2.2.2.2.2.2.2 ag aj ap cj cp x.2.2.1 x.2.2.2.1 x.2.2.2.2.1 x.2.2.2.2.2.1 x1 x2 x3 hn hk) (fun U h => ⟨⟨h.2.1, h.2.2.1⟩, h.2.2.2.2.1⟩)
set_option maxHeartbeats 4000000 in
set_option maxRecDepth 100000 in
theorem Cc_fP_ways4 (x : CS) (x1 : Int32) (x2 : Int32) (x3 : Int32) (hn : x.2.2.1 ≤ 14) (hk : x1 = 4) : CC yP_ways prog_1_method_23_code 5 [.int x1, .int x2, .int x3] x (x) (fP_ways4 x.2.2.1 x.2.2.2.2.1 x2 x3) := by
  intro l dC dI sz ao at3 am3 as3 ab3 az3 at4 am4 as4 ab4 az4 ag aj ap cm3 cs3 cb3 cm4 cs4 cb4 cj cp
  exact Met.toMut (c_fP_ways4 l dC dI ao x.1 x.2.1 at3 am3 as3 ab3 az3 cm3 cs3 cb3 x.2.2.2.2.2.2.1 x.2.2.2.2.2.2.2.1 x.2.2.2.2.2.2.2.2.1 at4 am4 as4 ab4 az4 cm4 cs4 cb4 x.2.2.2.2.2.2.2.2.2.1 x.2.2.2.2.2.2.2.2.2.2.1 x.2.2.2.2.2.2.2.2.2.2.2 ag aj ap cj cp x.2.2.1 x.2.2.2.1 x.2.2.2.2.1 x.2.2.2.2.2.1 x1 x2 x3 hn hk) (fun U h => ⟨⟨h.2.1, h.2.2.1⟩, h.2.2.2.2.1⟩)
set_option maxHeartbeats 4000000 in
set_option maxRecDepth 100000 in
theorem Cc_fP_ways5 (x : CS) (x1 : Int32) (x2 : Int32) (x3 : Int32) (hn : x.2.2.1 ≤ 14) (hk : x1 = 5) : CC yP_ways prog_1_method_23_code 5 [.int x1, .int x2, .int x3] x (x) (fP_ways5 x.2.2.1 x.2.2.2.2.1 x2 x3) := by
  intro l dC dI sz ao at3 am3 as3 ab3 az3 at4 am4 as4 ab4 az4 ag aj ap cm3 cs3 cb3 cm4 cs4 cb4 cj cp
  exact Met.toMut (c_fP_ways5 l dC dI ao x.1 x.2.1 at3 am3 as3 ab3 az3 cm3 cs3 cb3 x.2.2.2.2.2.2.1 x.2.2.2.2.2.2.2.1 x.2.2.2.2.2.2.2.2.1 at4 am4 as4 ab4 az4 cm4 cs4 cb4 x.2.2.2.2.2.2.2.2.2.1 x.2.2.2.2.2.2.2.2.2.2.1 x.2.2.2.2.2.2.2.2.2.2.2 ag aj ap cj cp x.2.2.1 x.2.2.2.1 x.2.2.2.2.1 x.2.2.2.2.2.1 x1 x2 x3 hn hk) (fun U h => ⟨⟨h.2.1, h.2.2.1⟩, h.2.2.2.2.1⟩)
set_option maxHeartbeats 4000000 in
set_option maxRecDepth 100000 in
theorem Cc_fP_ways0a (x : CS) (x1 : Int32) (x2 : Int32) (x3 : Int32) (hn : x.2.2.1 ≤ 14) (hk : x1 < 1) : CC yP_ways prog_1_method_23_code 5 [.int x1, .int x2, .int x3] x (x) (fP_ways0) := by
  intro l dC dI sz ao at3 am3 as3 ab3 az3 at4 am4 as4 ab4 az4 ag aj ap cm3 cs3 cb3 cm4 cs4 cb4 cj cp
  exact Met.toMut (c_fP_ways0a l dC dI ao x.1 x.2.1 at3 am3 as3 ab3 az3 cm3 cs3 cb3 x.2.2.2.2.2.2.1 x.2.2.2.2.2.2.2.1 x.2.2.2.2.2.2.2.2.1 at4 am4 as4 ab4 az4 cm4 cs4 cb4 x.2.2.2.2.2.2.2.2.2.1 x.2.2.2.2.2.2.2.2.2.2.1 x.2.2.2.2.2.2.2.2.2.2.2 ag aj ap cj cp x.2.2.1 x.2.2.2.1 x.2.2.2.2.1 x.2.2.2.2.2.1 x1 x2 x3 hn hk) (fun U h => ⟨⟨h.2.1, h.2.2.1⟩, h.2.2.2.2.1⟩)
set_option maxHeartbeats 4000000 in
set_option maxRecDepth 100000 in
theorem Cc_fP_ways00b (x : CS) (x1 : Int32) (x2 : Int32) (x3 : Int32) (hn : x.2.2.1 ≤ 14) (hk : ¬ x1 < 1) (hk2 : ¬ x1 ≤ 5) : CC yP_ways prog_1_method_23_code 5 [.int x1, .int x2, .int x3] x (x) (fP_ways00) := by
  intro l dC dI sz ao at3 am3 as3 ab3 az3 at4 am4 as4 ab4 az4 ag aj ap cm3 cs3 cb3 cm4 cs4 cb4 cj cp
  exact Met.toMut (c_fP_ways00b l dC dI ao x.1 x.2.1 at3 am3 as3 ab3 az3 cm3 cs3 cb3 x.2.2.2.2.2.2.1 x.2.2.2.2.2.2.2.1 x.2.2.2.2.2.2.2.2.1 at4 am4 as4 ab4 az4 cm4 cs4 cb4 x.2.2.2.2.2.2.2.2.2.1 x.2.2.2.2.2.2.2.2.2.2.1 x.2.2.2.2.2.2.2.2.2.2.2 ag aj ap cj cp x.2.2.1 x.2.2.2.1 x.2.2.2.2.1 x.2.2.2.2.2.1 x1 x2 x3 hn hk hk2) (fun U h => ⟨⟨h.2.1, h.2.2.1⟩, h.2.2.2.2.1⟩)
set_option maxHeartbeats 4000000 in
set_option maxRecDepth 100000 in
theorem Cc_fP_closed (x : CS) (x1 : Int32) (x2 : Int32) (hn : x.2.2.1 ≤ 14) : CC yP_closed prog_1_method_20_code 6 [.int x1, .int x2] x (x) (fP_closed x.2.2.1 x.2.2.2.2.1 x1 x2) := by
  intro l dC dI sz ao at3 am3 as3 ab3 az3 at4 am4 as4 ab4 az4 ag aj ap cm3 cs3 cb3 cm4 cs4 cb4 cj cp
  exact Met.toMut (c_fP_closed l dC dI ao x.1 x.2.1 at3 am3 as3 ab3 az3 cm3 cs3 cb3 x.2.2.2.2.2.2.1 x.2.2.2.2.2.2.2.1 x.2.2.2.2.2.2.2.2.1 at4 am4 as4 ab4 az4 cm4 cs4 cb4 x.2.2.2.2.2.2.2.2.2.1 x.2.2.2.2.2.2.2.2.2.2.1 x.2.2.2.2.2.2.2.2.2.2.2 ag aj ap cj cp x.2.2.1 x.2.2.2.1 x.2.2.2.2.1 x.2.2.2.2.2.1 x1 x2 hn) (fun U h => ⟨⟨h.2.1, h.2.2.1⟩, h.2.2.2.2.1⟩)
set_option maxHeartbeats 4000000 in
set_option maxRecDepth 100000 in
theorem Cc_fP_node (x : CS) (x1 : Int32) (hn : x.2.2.1 ≤ 14) (nn' : Nat) (e_nn : fP_node_n x.2.2.1 x1 = nI nn') : CC yP_node prog_1_method_2_code 2 [.int x1] x ((fP_node_a x.1 x.2.2.1 x1, fP_node_b x.2.1 x.2.2.1 x1, nn', x.2.2.2.1, x.2.2.2.2.1, fP_node_P x.2.2.1 x.2.2.2.2.2.1 x1, x.2.2.2.2.2.2.1, x.2.2.2.2.2.2.2.1, x.2.2.2.2.2.2.2.2.1, x.2.2.2.2.2.2.2.2.2.1, x.2.2.2.2.2.2.2.2.2.2.1, x.2.2.2.2.2.2.2.2.2.2.2)) (fP_node x.2.2.1 x1) := by
  intro l dC dI sz ao at3 am3 as3 ab3 az3 at4 am4 as4 ab4 az4 ag aj ap cm3 cs3 cb3 cm4 cs4 cb4 cj cp
  have h := c_fP_node l dC dI sz ao x.1 x.2.1 at3 am3 as3 ab3 az3 cm3 cs3 cb3 x.2.2.2.2.2.2.1 x.2.2.2.2.2.2.2.1 x.2.2.2.2.2.2.2.2.1 at4 am4 as4 ab4 az4 cm4 cs4 cb4 x.2.2.2.2.2.2.2.2.2.1 x.2.2.2.2.2.2.2.2.2.2.1 x.2.2.2.2.2.2.2.2.2.2.2 ag aj ap cj cp x.2.2.1 x.2.2.2.1 x.2.2.2.2.1 x.2.2.2.2.2.1 x1 hn
  rw [e_nn] at h
  exact Met.pre h (fun U h => ⟨h.1, h.2.1, h.2.2.1, h.2.2.2.1, h.2.2.2.2.1⟩)
set_option maxHeartbeats 4000000 in
set_option maxRecDepth 100000 in
theorem Cc_fP_clear (x : CS) (hn : x.2.2.1 ≤ 14) (nn' : Nat) (e_nn : fP_clear_n = nI nn') : CC yP_clear prog_1_method_3_code 1 [] x ((fP_clear_a, fP_clear_b, nn', fP_clear_e, fP_clear_J x.2.2.2.2.1, fP_clear_P x.2.2.2.2.2.1, x.2.2.2.2.2.2.1, fP_clear_S3 x.2.2.2.2.2.2.2.1, x.2.2.2.2.2.2.2.2.1, x.2.2.2.2.2.2.2.2.2.1, fP_clear_S4 x.2.2.2.2.2.2.2.2.2.2.1, x.2.2.2.2.2.2.2.2.2.2.2)) (fP_clear x.2.2.1) := by
  intro l dC dI sz ao at3 am3 as3 ab3 az3 at4 am4 as4 ab4 az4 ag aj ap cm3 cs3 cb3 cm4 cs4 cb4 cj cp
  have h := c_fP_clear l dC dI sz ao x.1 x.2.1 at3 am3 as3 ab3 az3 cm3 cs3 cb3 x.2.2.2.2.2.2.1 x.2.2.2.2.2.2.2.1 x.2.2.2.2.2.2.2.2.1 at4 am4 as4 ab4 az4 cm4 cs4 cb4 x.2.2.2.2.2.2.2.2.2.1 x.2.2.2.2.2.2.2.2.2.2.1 x.2.2.2.2.2.2.2.2.2.2.2 ag aj ap cj cp x.2.2.1 x.2.2.2.1 x.2.2.2.2.1 x.2.2.2.2.2.1 hn
  rw [e_nn] at h
  exact Met.pre h (fun U h => ⟨h.1, h.2.1, h.2.2.1, h.2.2.2.1, h.2.2.2.2.1⟩)
set_option maxHeartbeats 4000000 in
set_option maxRecDepth 100000 in
theorem Cc_fP_edge (x : CS) (x1 : Int32) (x2 : Int32) (hn : x.2.2.1 ≤ 14) : CC yP_edge prog_1_method_4_code 4 [.int x1, .int x2] x ((fP_edge_a x.1 x.2.2.1 x1 x2, fP_edge_b x.2.1 x.2.2.1 x1 x2, x.2.2.1, fP_edge_e x.2.2.1 x.2.2.2.1 x.2.2.2.2.1 x1 x2, fP_edge_J x.2.2.1 x.2.2.2.2.1 x1 x2, x.2.2.2.2.2.1, x.2.2.2.2.2.2.1, fP_edge_S3 x.2.2.2.2.2.2.1 x.2.2.2.2.2.2.2.1 x.2.2.1 x.2.2.2.2.1 x1 x2, x.2.2.2.2.2.2.2.2.1, x.2.2.2.2.2.2.2.2.2.1, fP_edge_S4 x.2.2.2.2.2.2.2.2.2.1 x.2.2.2.2.2.2.2.2.2.2.1 x.2.2.1 x.2.2.2.2.1 x1 x2, x.2.2.2.2.2.2.2.2.2.2.2)) (fP_edge x.2.2.1 x.2.2.2.2.1 x1 x2) := by
  intro l dC dI sz ao at3 am3 as3 ab3 az3 at4 am4 as4 ab4 az4 ag aj ap cm3 cs3 cb3 cm4 cs4 cb4 cj cp
  have h := c_fP_edge l dC dI sz ao x.1 x.2.1 at3 am3 as3 ab3 az3 cm3 cs3 cb3 x.2.2.2.2.2.2.1 x.2.2.2.2.2.2.2.1 x.2.2.2.2.2.2.2.2.1 at4 am4 as4 ab4 az4 cm4 cs4 cb4 x.2.2.2.2.2.2.2.2.2.1 x.2.2.2.2.2.2.2.2.2.2.1 x.2.2.2.2.2.2.2.2.2.2.2 ag aj ap cj cp x.2.2.1 x.2.2.2.1 x.2.2.2.2.1 x.2.2.2.2.2.1 x1 x2 hn
  exact Met.pre h (fun U h => ⟨h.1, h.2.1, h.2.2.1, h.2.2.2.1, h.2.2.2.2.1⟩)
set_option maxHeartbeats 4000000 in
set_option maxRecDepth 100000 in
theorem Cc_fP_colour (x : CS) (x1 : Int32) (x2 : Int32) (hn : x.2.2.1 ≤ 14) : CC yP_colour prog_1_method_5_code 3 [.int x1, .int x2] x ((x.1, x.2.1, x.2.2.1, x.2.2.2.1, x.2.2.2.2.1, fP_colour_P x.2.2.1 x.2.2.2.2.2.1 x1 x2, x.2.2.2.2.2.2.1, x.2.2.2.2.2.2.2.1, x.2.2.2.2.2.2.2.2.1, x.2.2.2.2.2.2.2.2.2.1, x.2.2.2.2.2.2.2.2.2.2.1, x.2.2.2.2.2.2.2.2.2.2.2)) (fP_colour x.2.2.1 x.2.2.2.2.2.1 x1 x2) := by
  intro l dC dI sz ao at3 am3 as3 ab3 az3 at4 am4 as4 ab4 az4 ag aj ap cm3 cs3 cb3 cm4 cs4 cb4 cj cp
  have h := c_fP_colour l dC dI sz ao x.1 x.2.1 at3 am3 as3 ab3 az3 cm3 cs3 cb3 x.2.2.2.2.2.2.1 x.2.2.2.2.2.2.2.1 x.2.2.2.2.2.2.2.2.1 at4 am4 as4 ab4 az4 cm4 cs4 cb4 x.2.2.2.2.2.2.2.2.2.1 x.2.2.2.2.2.2.2.2.2.2.1 x.2.2.2.2.2.2.2.2.2.2.2 ag aj ap cj cp x.2.2.1 x.2.2.2.1 x.2.2.2.2.1 x.2.2.2.2.2.1 x1 x2 hn
  exact Met.pre h (fun U h => ⟨h.1, h.2.1, h.2.2.1, h.2.2.2.1, h.2.2.2.2.1⟩)
set_option maxHeartbeats 4000000 in
set_option maxRecDepth 100000 in
theorem Cc_fP_change3 (x : CS) (x1 : Int32) (x2 : Int32) (hn : x.2.2.1 ≤ 14) (h3 : x1 = 3) (hp : ¬ fS_place 4 zz3 x2 = (-1)) (hlt : ¬ x.1 = (-1) → ¬ fG_twoOf x.2.2.1 x.1 x.2.1 = 0 ∧ vp_in x.1 14 ∧ vp_in x.2.1 14) : CC yP_change prog_1_method_14_code 4 [.int x1, .int x2] x ((x.1, x.2.1, x.2.2.1, fP_change3_e x.1 x.2.1 x.2.2.1 x.2.2.2.1 x.2.2.2.2.1, fP_change3_J x.1 x.2.1 x.2.2.2.2.1, x.2.2.2.2.2.1, x.2.2.2.2.2.2.1, x.2.2.2.2.2.2.2.1, x.2.2.2.2.2.2.2.2.1, x.2.2.2.2.2.2.2.2.2.1, x.2.2.2.2.2.2.2.2.2.2.1, x.2.2.2.2.2.2.2.2.2.2.2)) (fP_change3 x.1 x.2.1 x.2.2.2.2.2.2.1 x.2.2.2.2.2.2.2.1 x.2.2.1 x.2.2.2.2.1 x2) := by
  intro l dC dI sz ao at3 am3 as3 ab3 az3 at4 am4 as4 ab4 az4 ag aj ap cm3 cs3 cb3 cm4 cs4 cb4 cj cp
  have h := c_fP_change3 l dC dI sz ao x.1 x.2.1 at3 am3 as3 ab3 az3 cm3 cs3 cb3 x.2.2.2.2.2.2.1 x.2.2.2.2.2.2.2.1 x.2.2.2.2.2.2.2.2.1 at4 am4 as4 ab4 az4 cm4 cs4 cb4 x.2.2.2.2.2.2.2.2.2.1 x.2.2.2.2.2.2.2.2.2.2.1 x.2.2.2.2.2.2.2.2.2.2.2 ag aj ap cj cp x.2.2.1 x.2.2.2.1 x.2.2.2.2.1 x.2.2.2.2.2.1 x1 x2 hn h3 hp hlt
  exact Met.pre h (fun U h => h)
set_option maxHeartbeats 4000000 in
set_option maxRecDepth 100000 in
theorem Cc_fP_change4 (x : CS) (x1 : Int32) (x2 : Int32) (hn : x.2.2.1 ≤ 14) (h4 : x1 = 4) (hp : ¬ fS_place 11 zz4 x2 = (-1)) (hlt : ¬ x.1 = (-1) → ¬ fG_twoOf x.2.2.1 x.1 x.2.1 = 0 ∧ vp_in x.1 14 ∧ vp_in x.2.1 14) : CC yP_change prog_1_method_14_code 4 [.int x1, .int x2] x ((x.1, x.2.1, x.2.2.1, fP_change4_e x.1 x.2.1 x.2.2.1 x.2.2.2.1 x.2.2.2.2.1, fP_change4_J x.1 x.2.1 x.2.2.2.2.1, x.2.2.2.2.2.1, x.2.2.2.2.2.2.1, x.2.2.2.2.2.2.2.1, x.2.2.2.2.2.2.2.2.1, x.2.2.2.2.2.2.2.2.2.1, x.2.2.2.2.2.2.2.2.2.2.1, x.2.2.2.2.2.2.2.2.2.2.2)) (fP_change4 x.1 x.2.1 x.2.2.2.2.2.2.2.2.2.1 x.2.2.2.2.2.2.2.2.2.2.1 x.2.2.1 x.2.2.2.2.1 x2) := by
  intro l dC dI sz ao at3 am3 as3 ab3 az3 at4 am4 as4 ab4 az4 ag aj ap cm3 cs3 cb3 cm4 cs4 cb4 cj cp
  have h := c_fP_change4 l dC dI sz ao x.1 x.2.1 at3 am3 as3 ab3 az3 cm3 cs3 cb3 x.2.2.2.2.2.2.1 x.2.2.2.2.2.2.2.1 x.2.2.2.2.2.2.2.2.1 at4 am4 as4 ab4 az4 cm4 cs4 cb4 x.2.2.2.2.2.2.2.2.2.1 x.2.2.2.2.2.2.2.2.2.2.1 x.2.2.2.2.2.2.2.2.2.2.2 ag aj ap cj cp x.2.2.1 x.2.2.2.1 x.2.2.2.2.1 x.2.2.2.2.2.1 x1 x2 hn h4 hp hlt
  exact Met.pre h (fun U h => h)
set_option maxHeartbeats 4000000 in
set_option maxRecDepth 100000 in
theorem Cc_fP_change0 (x : CS) (x1 : Int32) (x2 : Int32) (hn : x.2.2.1 ≤ 14) (h0 : badSS x1 x2) (hlt : ¬ x.1 = (-1) → ¬ fG_twoOf x.2.2.1 x.1 x.2.1 = 0 ∧ vp_in x.1 14 ∧ vp_in x.2.1 14) : CC yP_change prog_1_method_14_code 4 [.int x1, .int x2] x ((x.1, x.2.1, x.2.2.1, x.2.2.2.1, x.2.2.2.2.1, x.2.2.2.2.2.1, x.2.2.2.2.2.2.1, x.2.2.2.2.2.2.2.1, x.2.2.2.2.2.2.2.2.1, x.2.2.2.2.2.2.2.2.2.1, x.2.2.2.2.2.2.2.2.2.2.1, x.2.2.2.2.2.2.2.2.2.2.2)) (fP_change0) := by
  intro l dC dI sz ao at3 am3 as3 ab3 az3 at4 am4 as4 ab4 az4 ag aj ap cm3 cs3 cb3 cm4 cs4 cb4 cj cp
  have h := c_fP_change0 l dC dI sz ao x.1 x.2.1 at3 am3 as3 ab3 az3 cm3 cs3 cb3 x.2.2.2.2.2.2.1 x.2.2.2.2.2.2.2.1 x.2.2.2.2.2.2.2.2.1 at4 am4 as4 ab4 az4 cm4 cs4 cb4 x.2.2.2.2.2.2.2.2.2.1 x.2.2.2.2.2.2.2.2.2.2.1 x.2.2.2.2.2.2.2.2.2.2.2 ag aj ap cj cp x.2.2.1 x.2.2.2.1 x.2.2.2.2.1 x.2.2.2.2.2.1 x1 x2 hn h0 hlt
  exact Met.pre h (fun U h => h)
set_option maxHeartbeats 4000000 in
set_option maxRecDepth 100000 in
theorem Cc_fP_after3 (x : CS) (x1 : Int32) (x2 : Int32) (x3 : Int32) (x4 : Int32) (hn : x.2.2.1 ≤ 14) (h3 : x1 = 3) (hp : ¬ fS_place 4 zz3 x2 = (-1)) : CC yP_after prog_1_method_15_code 6 [.int x1, .int x2, .int x3, .int x4] x ((x.1, x.2.1, x.2.2.1, fP_after3_e x.2.2.1 x.2.2.2.1 x.2.2.2.2.1 x3 x4, fP_after3_J x.2.2.1 x.2.2.2.2.1 x3 x4, x.2.2.2.2.2.1, x.2.2.2.2.2.2.1, x.2.2.2.2.2.2.2.1, x.2.2.2.2.2.2.2.2.1, x.2.2.2.2.2.2.2.2.2.1, x.2.2.2.2.2.2.2.2.2.2.1, x.2.2.2.2.2.2.2.2.2.2.2)) (fP_after3 x.2.2.2.2.2.2.1 x.2.2.2.2.2.2.2.1 x.2.2.1 x.2.2.2.2.1 x2 x3 x4) := by
  intro l dC dI sz ao at3 am3 as3 ab3 az3 at4 am4 as4 ab4 az4 ag aj ap cm3 cs3 cb3 cm4 cs4 cb4 cj cp
  have h := c_fP_after3 l dC dI sz ao x.1 x.2.1 at3 am3 as3 ab3 az3 cm3 cs3 cb3 x.2.2.2.2.2.2.1 x.2.2.2.2.2.2.2.1 x.2.2.2.2.2.2.2.2.1 at4 am4 as4 ab4 az4 cm4 cs4 cb4 x.2.2.2.2.2.2.2.2.2.1 x.2.2.2.2.2.2.2.2.2.2.1 x.2.2.2.2.2.2.2.2.2.2.2 ag aj ap cj cp x.2.2.1 x.2.2.2.1 x.2.2.2.2.1 x.2.2.2.2.2.1 x1 x2 x3 x4 hn h3 hp
  exact Met.pre h (fun U h => h)
set_option maxHeartbeats 4000000 in
set_option maxRecDepth 100000 in
theorem Cc_fP_after4 (x : CS) (x1 : Int32) (x2 : Int32) (x3 : Int32) (x4 : Int32) (hn : x.2.2.1 ≤ 14) (h4 : x1 = 4) (hp : ¬ fS_place 11 zz4 x2 = (-1)) : CC yP_after prog_1_method_15_code 6 [.int x1, .int x2, .int x3, .int x4] x ((x.1, x.2.1, x.2.2.1, fP_after4_e x.2.2.1 x.2.2.2.1 x.2.2.2.2.1 x3 x4, fP_after4_J x.2.2.1 x.2.2.2.2.1 x3 x4, x.2.2.2.2.2.1, x.2.2.2.2.2.2.1, x.2.2.2.2.2.2.2.1, x.2.2.2.2.2.2.2.2.1, x.2.2.2.2.2.2.2.2.2.1, x.2.2.2.2.2.2.2.2.2.2.1, x.2.2.2.2.2.2.2.2.2.2.2)) (fP_after4 x.2.2.2.2.2.2.2.2.2.1 x.2.2.2.2.2.2.2.2.2.2.1 x.2.2.1 x.2.2.2.2.1 x2 x3 x4) := by
  intro l dC dI sz ao at3 am3 as3 ab3 az3 at4 am4 as4 ab4 az4 ag aj ap cm3 cs3 cb3 cm4 cs4 cb4 cj cp
  have h := c_fP_after4 l dC dI sz ao x.1 x.2.1 at3 am3 as3 ab3 az3 cm3 cs3 cb3 x.2.2.2.2.2.2.1 x.2.2.2.2.2.2.2.1 x.2.2.2.2.2.2.2.2.1 at4 am4 as4 ab4 az4 cm4 cs4 cb4 x.2.2.2.2.2.2.2.2.2.1 x.2.2.2.2.2.2.2.2.2.2.1 x.2.2.2.2.2.2.2.2.2.2.2 ag aj ap cj cp x.2.2.1 x.2.2.2.1 x.2.2.2.2.1 x.2.2.2.2.2.1 x1 x2 x3 x4 hn h4 hp
  exact Met.pre h (fun U h => h)
set_option maxHeartbeats 4000000 in
set_option maxRecDepth 100000 in
theorem Cc_fP_after0 (x : CS) (x1 : Int32) (x2 : Int32) (x3 : Int32) (x4 : Int32) (hn : x.2.2.1 ≤ 14) (h0 : badSS x1 x2) : CC yP_after prog_1_method_15_code 6 [.int x1, .int x2, .int x3, .int x4] x ((x.1, x.2.1, x.2.2.1, x.2.2.2.1, x.2.2.2.2.1, x.2.2.2.2.2.1, x.2.2.2.2.2.2.1, x.2.2.2.2.2.2.2.1, x.2.2.2.2.2.2.2.2.1, x.2.2.2.2.2.2.2.2.2.1, x.2.2.2.2.2.2.2.2.2.2.1, x.2.2.2.2.2.2.2.2.2.2.2)) (fP_after0) := by
  intro l dC dI sz ao at3 am3 as3 ab3 az3 at4 am4 as4 ab4 az4 ag aj ap cm3 cs3 cb3 cm4 cs4 cb4 cj cp
  have h := c_fP_after0 l dC dI sz ao x.1 x.2.1 at3 am3 as3 ab3 az3 cm3 cs3 cb3 x.2.2.2.2.2.2.1 x.2.2.2.2.2.2.2.1 x.2.2.2.2.2.2.2.2.1 at4 am4 as4 ab4 az4 cm4 cs4 cb4 x.2.2.2.2.2.2.2.2.2.1 x.2.2.2.2.2.2.2.2.2.2.1 x.2.2.2.2.2.2.2.2.2.2.2 ag aj ap cj cp x.2.2.1 x.2.2.2.1 x.2.2.2.2.1 x.2.2.2.2.2.1 x1 x2 x3 x4 hn h0
  exact Met.pre h (fun U h => h)
set_option maxHeartbeats 4000000 in
set_option maxRecDepth 100000 in
theorem Cc_fP_like (x : CS) (x1 : Int32) (x2 : Int32) (hn : x.2.2.1 ≤ 14) : CC yP_like prog_1_method_19_code 3 [.int x1, .int x2] x ((x.1, x.2.1, x.2.2.1, x.2.2.2.1, x.2.2.2.2.1, x.2.2.2.2.2.1, x.2.2.2.2.2.2.1, x.2.2.2.2.2.2.2.1, fP_like_B3 x.2.2.2.2.2.2.1 x.2.2.2.2.2.2.2.1 x.2.2.2.2.2.2.2.2.1 x.2.2.1 x.2.2.2.2.1 x1 x2, x.2.2.2.2.2.2.2.2.2.1, x.2.2.2.2.2.2.2.2.2.2.1, fP_like_B4 x.2.2.2.2.2.2.1 x.2.2.2.2.2.2.2.1 x.2.2.2.2.2.2.2.2.1 x.2.2.2.2.2.2.2.2.2.1 x.2.2.2.2.2.2.2.2.2.2.1 x.2.2.2.2.2.2.2.2.2.2.2 x.2.2.1 x.2.2.2.2.1 x1 x2)) (fP_like x.2.2.2.2.2.2.1 x.2.2.2.2.2.2.2.1 x.2.2.2.2.2.2.2.2.1 x.2.2.2.2.2.2.2.2.2.1 x.2.2.2.2.2.2.2.2.2.2.1 x.2.2.2.2.2.2.2.2.2.2.2 x.2.2.1 x.2.2.2.2.1 x1 x2) := by
  intro l dC dI sz ao at3 am3 as3 ab3 az3 at4 am4 as4 ab4 az4 ag aj ap cm3 cs3 cb3 cm4 cs4 cb4 cj cp
  have h := c_fP_like l dC dI sz ao x.1 x.2.1 at3 am3 as3 ab3 az3 cm3 cs3 cb3 x.2.2.2.2.2.2.1 x.2.2.2.2.2.2.2.1 x.2.2.2.2.2.2.2.2.1 at4 am4 as4 ab4 az4 cm4 cs4 cb4 x.2.2.2.2.2.2.2.2.2.1 x.2.2.2.2.2.2.2.2.2.2.1 x.2.2.2.2.2.2.2.2.2.2.2 ag aj ap cj cp x.2.2.1 x.2.2.2.1 x.2.2.2.2.1 x.2.2.2.2.2.1 x1 x2 hn
  exact Met.pre h (fun U h => h)
