/-! THE LAW: a case each -/
section LW
variable {x : zv_X} {K : zK} {b L : Nat} {xs : Nat → Int32}
set_option maxHeartbeats 4000000 in
set_option maxRecDepth 100000 in
theorem la_0 (C : zv_C x (gL K)) (X : zv_Sc x b L xs) {t : Nat} (h4 : 4 * t + 4 ≤ L) (hL : L ≤ 2048) {σ : dS} {B : Nat → Nat} {Lf : Nat → Bool} {μ : dQ} (hP : ∀ a1, zP K yX8_begin cX8_begin 2 yX9_begin cX9_begin 3 (some .int) [.int a1] σ B Lf μ t iV) (hk : laK x K b σ B t) : zv_V x (gL K) 124 (laV b (σ.1 0) (B 0) t) [] (wS K σ ++ wT K B σ.2.1.2.2.1 Lf μ) (lce σ) (lsl σ) := by
  refine zv_go C okL_0 [] 40 ?_
  refine zv_sld C X rfl (la_in (k := 1) h4 hL (by decide)) dzL_129 rfl ?_
  obtain ⟨ans, k', Lf', ⟨r, rfl⟩, hG, hH⟩ := hP (xs (nI (4 * t) + 1).toNatClampNeg)
  refine zv_go C okL_0 [] 40 ?_
  refine la_call1 C hG inX8_begin kL_13 (by decide) rfl rfl rfl dzL_130 rfl (fun σ' hg h0 => ?_)
  refine zv_go C okL_0 [] 40 ?_
  refine zv_sld C X rfl (la_in (k := 1) h4 hL (by decide)) dzL_138 rfl ?_
  refine zv_go C okL_0 [] 40 ?_
  refine la_call2 C hH inX9_begin kL_17 (by decide) rfl (r0 := .int r) rfl (Nat.le_of_ble_eq_true rfl) rfl dzL_139 rfl (rmS hg.1) (fun μ' => ?_)
  refine zv_go C okL_0 [702] 40 ?_
  exact ⟨fun _ => hk σ' k' Lf' μ' hg.1 hg.2 h0, fun h => absurd rfl h⟩
set_option maxHeartbeats 4000000 in
set_option maxRecDepth 100000 in
theorem la_1 (C : zv_C x (gL K)) (X : zv_Sc x b L xs) {t : Nat} (h4 : 4 * t + 4 ≤ L) (hL : L ≤ 2048) {σ : dS} {B : Nat → Nat} {Lf : Nat → Bool} {μ : dQ} (hP : ∀ a1 a2, zP K yX8_put cX8_put 3 yX9_put cX9_put 4 (some .int) [.int a1, .int a2] σ B Lf μ t iV) (hk : laK x K b σ B t) : zv_V x (gL K) 147 (laV b (σ.1 0) (B 0) t) [] (wS K σ ++ wT K B σ.2.1.2.2.1 Lf μ) (lce σ) (lsl σ) := by
  refine zv_go C okL_1 [] 40 ?_
  refine zv_sld C X rfl (la_in (k := 1) h4 hL (by decide)) dzL_152 rfl ?_
  refine zv_go C okL_1 [] 40 ?_
  refine zv_sld C X rfl (la_in (k := 2) h4 hL (by decide)) dzL_157 rfl ?_
  obtain ⟨ans, k', Lf', ⟨r, rfl⟩, hG, hH⟩ := hP (xs (nI (4 * t) + 1).toNatClampNeg) (xs (nI (4 * t) + 2).toNatClampNeg)
  refine zv_go C okL_1 [] 40 ?_
  refine la_call1 C hG inX8_put kL_18 (by decide) rfl rfl rfl dzL_158 rfl (fun σ' hg h0 => ?_)
  refine zv_go C okL_1 [] 40 ?_
  refine zv_sld C X rfl (la_in (k := 1) h4 hL (by decide)) dzL_166 rfl ?_
  refine zv_go C okL_1 [] 40 ?_
  refine zv_sld C X rfl (la_in (k := 2) h4 hL (by decide)) dzL_171 rfl ?_
  refine zv_go C okL_1 [] 40 ?_
  refine la_call2 C hH inX9_put kL_22 (by decide) rfl (r0 := .int r) rfl (Nat.le_of_ble_eq_true rfl) rfl dzL_172 rfl (rmS hg.1) (fun μ' => ?_)
  refine zv_go C okL_1 [702] 40 ?_
  exact ⟨fun _ => hk σ' k' Lf' μ' hg.1 hg.2 h0, fun h => absurd rfl h⟩
set_option maxHeartbeats 4000000 in
set_option maxRecDepth 100000 in
theorem la_2 (C : zv_C x (gL K)) (X : zv_Sc x b L xs) {t : Nat} (h4 : 4 * t + 4 ≤ L) (hL : L ≤ 2048) {σ : dS} {B : Nat → Nat} {Lf : Nat → Bool} {μ : dQ} (hP : ∀ a1, zP K yX8_free cX8_free 2 yX9_free cX9_free 4 (some .int) [.int a1] σ B Lf μ t iV) (hk : laK x K b σ B t) : zv_V x (gL K) 180 (laV b (σ.1 0) (B 0) t) [] (wS K σ ++ wT K B σ.2.1.2.2.1 Lf μ) (lce σ) (lsl σ) := by
  refine zv_go C okL_2 [] 40 ?_
  refine zv_sld C X rfl (la_in (k := 1) h4 hL (by decide)) dzL_185 rfl ?_
  obtain ⟨ans, k', Lf', ⟨r, rfl⟩, hG, hH⟩ := hP (xs (nI (4 * t) + 1).toNatClampNeg)
  refine zv_go C okL_2 [] 40 ?_
  refine la_call1 C hG inX8_free kL_23 (by decide) rfl rfl rfl dzL_186 rfl (fun σ' hg h0 => ?_)
  refine zv_go C okL_2 [] 40 ?_
  refine zv_sld C X rfl (la_in (k := 1) h4 hL (by decide)) dzL_194 rfl ?_
  refine zv_go C okL_2 [] 40 ?_
  refine la_call2 C hH inX9_free kL_26 (by decide) rfl (r0 := .int r) rfl (Nat.le_of_ble_eq_true rfl) rfl dzL_195 rfl (rmS hg.1) (fun μ' => ?_)
  refine zv_go C okL_2 [702] 40 ?_
  exact ⟨fun _ => hk σ' k' Lf' μ' hg.1 hg.2 h0, fun h => absurd rfl h⟩
set_option maxHeartbeats 4000000 in
set_option maxRecDepth 100000 in
theorem la_3 (C : zv_C x (gL K)) (X : zv_Sc x b L xs) {t : Nat} (h4 : 4 * t + 4 ≤ L) (hL : L ≤ 2048) {σ : dS} {B : Nat → Nat} {Lf : Nat → Bool} {μ : dQ} (hP : ∀ a1 a2, zP K yX8_isBelow cX8_isBelow 3 yX9_isBelow cX9_isBelow 3 (some .boolean) [.int a1, .int a2] σ B Lf μ t iV) (hk : laK x K b σ B t) : zv_V x (gL K) 203 (laV b (σ.1 0) (B 0) t) [] (wS K σ ++ wT K B σ.2.1.2.2.1 Lf μ) (lce σ) (lsl σ) := by
  refine zv_go C okL_3 [] 40 ?_
  refine zv_sld C X rfl (la_in (k := 1) h4 hL (by decide)) dzL_208 rfl ?_
  refine zv_go C okL_3 [] 40 ?_
  refine zv_sld C X rfl (la_in (k := 2) h4 hL (by decide)) dzL_213 rfl ?_
  obtain ⟨ans, k', Lf', ⟨r, rfl⟩, hG, hH⟩ := hP (xs (nI (4 * t) + 1).toNatClampNeg) (xs (nI (4 * t) + 2).toNatClampNeg)
  refine zv_go C okL_3 [] 40 ?_
  refine la_call1 C hG inX8_isBelow kL_27 (by decide) rfl rfl rfl dzL_214 rfl (fun σ' hg h0 => ?_)
  refine zv_go C okL_3 [] 40 ?_
  refine zv_sld C X rfl (la_in (k := 1) h4 hL (by decide)) dzL_222 rfl ?_
  refine zv_go C okL_3 [] 40 ?_
  refine zv_sld C X rfl (la_in (k := 2) h4 hL (by decide)) dzL_227 rfl ?_
  refine zv_go C okL_3 [] 40 ?_
  refine la_call2 C hH inX9_isBelow kL_31 (by decide) rfl (r0 := .int r) rfl (Nat.le_of_ble_eq_true rfl) rfl dzL_228 rfl (rmS hg.1) (fun μ' => ?_)
  refine zv_go C okL_3 [702] 40 ?_
  exact ⟨fun _ => hk σ' k' Lf' μ' hg.1 hg.2 h0, fun h => absurd rfl h⟩
set_option maxHeartbeats 4000000 in
set_option maxRecDepth 100000 in
theorem la_4 (C : zv_C x (gL K)) (X : zv_Sc x b L xs) {t : Nat} (h4 : 4 * t + 4 ≤ L) (hL : L ≤ 2048) {σ : dS} {B : Nat → Nat} {Lf : Nat → Bool} {μ : dQ} (hP : ∀ a1, zP K yX8_covers cX8_covers 2 yX9_covers cX9_covers 6 (some .int) [.int a1] σ B Lf μ t iV) (hk : laK x K b σ B t) : zv_V x (gL K) 236 (laV b (σ.1 0) (B 0) t) [] (wS K σ ++ wT K B σ.2.1.2.2.1 Lf μ) (lce σ) (lsl σ) := by
  refine zv_go C okL_4 [] 40 ?_
  refine zv_sld C X rfl (la_in (k := 1) h4 hL (by decide)) dzL_241 rfl ?_
  obtain ⟨ans, k', Lf', ⟨r, rfl⟩, hG, hH⟩ := hP (xs (nI (4 * t) + 1).toNatClampNeg)
  refine zv_go C okL_4 [] 40 ?_
  refine la_call1 C hG inX8_covers kL_32 (by decide) rfl rfl rfl dzL_242 rfl (fun σ' hg h0 => ?_)
  refine zv_go C okL_4 [] 40 ?_
  refine zv_sld C X rfl (la_in (k := 1) h4 hL (by decide)) dzL_250 rfl ?_
  refine zv_go C okL_4 [] 40 ?_
  refine la_call2 C hH inX9_covers kL_35 (by decide) rfl (r0 := .int r) rfl (Nat.le_of_ble_eq_true rfl) rfl dzL_251 rfl (rmS hg.1) (fun μ' => ?_)
  refine zv_go C okL_4 [702] 40 ?_
  exact ⟨fun _ => hk σ' k' Lf' μ' hg.1 hg.2 h0, fun h => absurd rfl h⟩
set_option maxHeartbeats 4000000 in
set_option maxRecDepth 100000 in
theorem la_5 (C : zv_C x (gL K)) (X : zv_Sc x b L xs) {t : Nat} (h4 : 4 * t + 4 ≤ L) (hL : L ≤ 2048) {σ : dS} {B : Nat → Nat} {Lf : Nat → Bool} {μ : dQ} (hP : ∀ a1, zP K yX8_count cX8_count 2 yX9_count cX9_count 4 (some .int) [.int a1] σ B Lf μ t iV) (hk : laK x K b σ B t) : zv_V x (gL K) 259 (laV b (σ.1 0) (B 0) t) [] (wS K σ ++ wT K B σ.2.1.2.2.1 Lf μ) (lce σ) (lsl σ) := by
  refine zv_go C okL_5 [] 40 ?_
  refine zv_sld C X rfl (la_in (k := 1) h4 hL (by decide)) dzL_264 rfl ?_
  obtain ⟨ans, k', Lf', ⟨r, rfl⟩, hG, hH⟩ := hP (xs (nI (4 * t) + 1).toNatClampNeg)
  refine zv_go C okL_5 [] 40 ?_
  refine la_call1 C hG inX8_count kL_36 (by decide) rfl rfl rfl dzL_265 rfl (fun σ' hg h0 => ?_)
  refine zv_go C okL_5 [] 40 ?_
  refine zv_sld C X rfl (la_in (k := 1) h4 hL (by decide)) dzL_273 rfl ?_
  refine zv_go C okL_5 [] 40 ?_
  refine la_call2 C hH inX9_count kL_39 (by decide) rfl (r0 := .int r) rfl (Nat.le_of_ble_eq_true rfl) rfl dzL_274 rfl (rmS hg.1) (fun μ' => ?_)
  refine zv_go C okL_5 [702] 40 ?_
  exact ⟨fun _ => hk σ' k' Lf' μ' hg.1 hg.2 h0, fun h => absurd rfl h⟩
set_option maxHeartbeats 4000000 in
set_option maxRecDepth 100000 in
theorem la_6 (C : zv_C x (gL K)) (X : zv_Sc x b L xs) {t : Nat} (h4 : 4 * t + 4 ≤ L) (hL : L ≤ 2048) {σ : dS} {B : Nat → Nat} {Lf : Nat → Bool} {μ : dQ} (hP : ∀ a1, zP K yX8_chain cX8_chain 2 yX9_chain cX9_chain 3 (some .int) [.int a1] σ B Lf μ t iV) (hk : laK x K b σ B t) : zv_V x (gL K) 282 (laV b (σ.1 0) (B 0) t) [] (wS K σ ++ wT K B σ.2.1.2.2.1 Lf μ) (lce σ) (lsl σ) := by
  refine zv_go C okL_6 [] 40 ?_
  refine zv_sld C X rfl (la_in (k := 1) h4 hL (by decide)) dzL_287 rfl ?_
  obtain ⟨ans, k', Lf', ⟨r, rfl⟩, hG, hH⟩ := hP (xs (nI (4 * t) + 1).toNatClampNeg)
  refine zv_go C okL_6 [] 40 ?_
  refine la_call1 C hG inX8_chain kL_40 (by decide) rfl rfl rfl dzL_288 rfl (fun σ' hg h0 => ?_)
  refine zv_go C okL_6 [] 40 ?_
  refine zv_sld C X rfl (la_in (k := 1) h4 hL (by decide)) dzL_296 rfl ?_
  refine zv_go C okL_6 [] 40 ?_
  refine la_call2 C hH inX9_chain kL_43 (by decide) rfl (r0 := .int r) rfl (Nat.le_of_ble_eq_true rfl) rfl dzL_297 rfl (rmS hg.1) (fun μ' => ?_)
  refine zv_go C okL_6 [702] 40 ?_
  exact ⟨fun _ => hk σ' k' Lf' μ' hg.1 hg.2 h0, fun h => absurd rfl h⟩
set_option maxHeartbeats 4000000 in
set_option maxRecDepth 100000 in
theorem la_7 (C : zv_C x (gL K)) (X : zv_Sc x b L xs) {t : Nat} (h4 : 4 * t + 4 ≤ L) (hL : L ≤ 2048) {σ : dS} {B : Nat → Nat} {Lf : Nat → Bool} {μ : dQ} (hP : zP K yX8_apart cX8_apart 1 yX9_apart cX9_apart 3 (some .int) [] σ B Lf μ t iV) (hk : laK x K b σ B t) : zv_V x (gL K) 305 (laV b (σ.1 0) (B 0) t) [] (wS K σ ++ wT K B σ.2.1.2.2.1 Lf μ) (lce σ) (lsl σ) := by
  obtain ⟨ans, k', Lf', ⟨r, rfl⟩, hG, hH⟩ := hP
  refine zv_go C okL_7 [] 40 ?_
  refine la_call1 C hG inX8_apart kL_44 (by decide) rfl rfl rfl dzL_306 rfl (fun σ' hg h0 => ?_)
  refine zv_go C okL_7 [] 40 ?_
  refine la_call2 C hH inX9_apart kL_48 (by decide) rfl (r0 := .int r) rfl (Nat.le_of_ble_eq_true rfl) rfl dzL_310 rfl (rmS hg.1) (fun μ' => ?_)
  refine zv_go C okL_7 [702] 40 ?_
  exact ⟨fun _ => hk σ' k' Lf' μ' hg.1 hg.2 h0, fun h => absurd rfl h⟩
set_option maxHeartbeats 4000000 in
set_option maxRecDepth 100000 in
theorem la_8 (C : zv_C x (gL K)) (X : zv_Sc x b L xs) {t : Nat} (h4 : 4 * t + 4 ≤ L) (hL : L ≤ 2048) {σ : dS} {B : Nat → Nat} {Lf : Nat → Bool} {μ : dQ} (hP : ∀ a1, zP K yX8_next cX8_next 2 yX9_next cX9_next 8 (some .int) [.int a1] σ B Lf μ t iV) (hk : laK x K b σ B t) : zv_V x (gL K) 318 (laV b (σ.1 0) (B 0) t) [] (wS K σ ++ wT K B σ.2.1.2.2.1 Lf μ) (lce σ) (lsl σ) := by
  refine zv_go C okL_8 [] 40 ?_
  refine zv_sld C X rfl (la_in (k := 1) h4 hL (by decide)) dzL_323 rfl ?_
  obtain ⟨ans, k', Lf', ⟨r, rfl⟩, hG, hH⟩ := hP (xs (nI (4 * t) + 1).toNatClampNeg)
  refine zv_go C okL_8 [] 40 ?_
  refine la_call1 C hG inX8_next kL_49 (by decide) rfl rfl rfl dzL_324 rfl (fun σ' hg h0 => ?_)
  refine zv_go C okL_8 [] 40 ?_
  refine zv_sld C X rfl (la_in (k := 1) h4 hL (by decide)) dzL_332 rfl ?_
  refine zv_go C okL_8 [] 40 ?_
  refine la_call2 C hH inX9_next kL_52 (by decide) rfl (r0 := .int r) rfl (Nat.le_of_ble_eq_true rfl) rfl dzL_333 rfl (rmS hg.1) (fun μ' => ?_)
  refine zv_go C okL_8 [702] 40 ?_
  exact ⟨fun _ => hk σ' k' Lf' μ' hg.1 hg.2 h0, fun h => absurd rfl h⟩
set_option maxHeartbeats 4000000 in
set_option maxRecDepth 100000 in
theorem la_9 (C : zv_C x (gL K)) (X : zv_Sc x b L xs) {t : Nat} (h4 : 4 * t + 4 ≤ L) (hL : L ≤ 2048) {σ : dS} {B : Nat → Nat} {Lf : Nat → Bool} {μ : dQ} (hP : zP K yX8_rows cX8_rows 1 yX9_rows cX9_rows 1 (some .long) [] σ B Lf μ t jV) (hk : laK x K b σ B t) : zv_V x (gL K) 341 (laV b (σ.1 0) (B 0) t) [] (wS K σ ++ wT K B σ.2.1.2.2.1 Lf μ) (lce σ) (lsl σ) := by
  obtain ⟨ans, k', Lf', ⟨r, rfl⟩, hG, hH⟩ := hP
  refine zv_go C okL_9 [] 40 ?_
  refine la_call1 C hG inX8_rows kL_53 (by decide) rfl rfl rfl dzL_342 rfl (fun σ' hg h0 => ?_)
  refine zv_go C okL_9 [] 40 ?_
  refine la_call2 C hH inX9_rows kL_57 (by decide) rfl (r0 := .long r) rfl (Nat.le_of_ble_eq_true rfl) rfl dzL_346 rfl (rmS hg.1) (fun μ' => ?_)
  refine zv_go C okL_9 [702] 40 ?_
  exact ⟨fun _ => hk σ' k' Lf' μ' hg.1 hg.2 h0, fun h => absurd (lg_cmp_self r) h⟩
set_option maxHeartbeats 4000000 in
set_option maxRecDepth 100000 in
theorem la_10 (C : zv_C x (gL K)) (X : zv_Sc x b L xs) {t : Nat} (h4 : 4 * t + 4 ≤ L) (hL : L ≤ 2048) {σ : dS} {B : Nat → Nat} {Lf : Nat → Bool} {μ : dQ} (hP : ∀ a1 a2, zP K yX8_before cX8_before 3 yX9_before cX9_before 4 (some .long) [.int a1, .int a2] σ B Lf μ t jV) (hk : laK x K b σ B t) : zv_V x (gL K) 355 (laV b (σ.1 0) (B 0) t) [] (wS K σ ++ wT K B σ.2.1.2.2.1 Lf μ) (lce σ) (lsl σ) := by
  refine zv_go C okL_10 [] 40 ?_
  refine zv_sld C X rfl (la_in (k := 1) h4 hL (by decide)) dzL_360 rfl ?_
  refine zv_go C okL_10 [] 40 ?_
  refine zv_sld C X rfl (la_in (k := 2) h4 hL (by decide)) dzL_365 rfl ?_
  obtain ⟨ans, k', Lf', ⟨r, rfl⟩, hG, hH⟩ := hP (xs (nI (4 * t) + 1).toNatClampNeg) (xs (nI (4 * t) + 2).toNatClampNeg)
  refine zv_go C okL_10 [] 40 ?_
  refine la_call1 C hG inX8_before kL_58 (by decide) rfl rfl rfl dzL_366 rfl (fun σ' hg h0 => ?_)
  refine zv_go C okL_10 [] 40 ?_
  refine zv_sld C X rfl (la_in (k := 1) h4 hL (by decide)) dzL_374 rfl ?_
  refine zv_go C okL_10 [] 40 ?_
  refine zv_sld C X rfl (la_in (k := 2) h4 hL (by decide)) dzL_379 rfl ?_
  refine zv_go C okL_10 [] 40 ?_
  refine la_call2 C hH inX9_before kL_62 (by decide) rfl (r0 := .long r) rfl (Nat.le_of_ble_eq_true rfl) rfl dzL_380 rfl (rmS hg.1) (fun μ' => ?_)
  refine zv_go C okL_10 [702] 40 ?_
  exact ⟨fun _ => hk σ' k' Lf' μ' hg.1 hg.2 h0, fun h => absurd (lg_cmp_self r) h⟩
set_option maxHeartbeats 4000000 in
set_option maxRecDepth 100000 in
theorem la_11 (C : zv_C x (gL K)) (X : zv_Sc x b L xs) {t : Nat} (h4 : 4 * t + 4 ≤ L) (hL : L ≤ 2048) {σ : dS} {B : Nat → Nat} {Lf : Nat → Bool} {μ : dQ} (hP : ∀ a1 a2, zP K yX8_places cX8_places 3 yX9_places cX9_places 6 (some .long) [.int a1, .int a2] σ B Lf μ t jV) (hk : laK x K b σ B t) : zv_V x (gL K) 389 (laV b (σ.1 0) (B 0) t) [] (wS K σ ++ wT K B σ.2.1.2.2.1 Lf μ) (lce σ) (lsl σ) := by
  refine zv_go C okL_11 [] 40 ?_
  refine zv_sld C X rfl (la_in (k := 1) h4 hL (by decide)) dzL_394 rfl ?_
  refine zv_go C okL_11 [] 40 ?_
  refine zv_sld C X rfl (la_in (k := 2) h4 hL (by decide)) dzL_399 rfl ?_
  obtain ⟨ans, k', Lf', ⟨r, rfl⟩, hG, hH⟩ := hP (xs (nI (4 * t) + 1).toNatClampNeg) (xs (nI (4 * t) + 2).toNatClampNeg)
  refine zv_go C okL_11 [] 40 ?_
  refine la_call1 C hG inX8_places kL_63 (by decide) rfl rfl rfl dzL_400 rfl (fun σ' hg h0 => ?_)
  refine zv_go C okL_11 [] 40 ?_
  refine zv_sld C X rfl (la_in (k := 1) h4 hL (by decide)) dzL_408 rfl ?_
  refine zv_go C okL_11 [] 40 ?_
  refine zv_sld C X rfl (la_in (k := 2) h4 hL (by decide)) dzL_413 rfl ?_
  refine zv_go C okL_11 [] 40 ?_
  refine la_call2 C hH inX9_places kL_66 (by decide) rfl (r0 := .long r) rfl (Nat.le_of_ble_eq_true rfl) rfl dzL_414 rfl (rmS hg.1) (fun μ' => ?_)
  refine zv_go C okL_11 [702] 40 ?_
  exact ⟨fun _ => hk σ' k' Lf' μ' hg.1 hg.2 h0, fun h => absurd (lg_cmp_self r) h⟩
set_option maxHeartbeats 4000000 in
set_option maxRecDepth 100000 in
theorem la_12 (C : zv_C x (gL K)) (X : zv_Sc x b L xs) {t : Nat} (h4 : 4 * t + 4 ≤ L) (hL : L ≤ 2048) {σ : dS} {B : Nat → Nat} {Lf : Nat → Bool} {μ : dQ} (hP : ∀ a1, zP K yX8_row cX8_row 3 yX9_row cX9_row 10 (some .long) [.long a1] σ B Lf μ t jV) (hk : laK x K b σ B t) : zv_V x (gL K) 423 (laV b (σ.1 0) (B 0) t) [] (wS K σ ++ wT K B σ.2.1.2.2.1 Lf μ) (lce σ) (lsl σ) := by
  refine zv_go C okL_12 [] 40 ?_
  refine zv_sld C X rfl (la_in (k := 1) h4 hL (by decide)) dzL_428 rfl ?_
  refine zv_go C okL_12 [] 40 ?_
  refine zv_sld C X rfl (la_in (k := 2) h4 hL (by decide)) dzL_437 rfl ?_
  obtain ⟨ans, k', Lf', ⟨r, rfl⟩, hG, hH⟩ := hP ((xs (nI (4 * t) + 1).toNatClampNeg).toInt64 <<< ((32 : Int32).toInt64 &&& 63) ||| (xs (nI (4 * t) + 2).toNatClampNeg).toInt64 &&& 4294967295)
  refine zv_go C okL_12 [] 40 ?_
  refine la_call1 C hG inX8_row kL_69 (by decide) rfl rfl rfl dzL_444 rfl (fun σ' hg h0 => ?_)
  refine zv_go C okL_12 [] 40 ?_
  refine zv_sld C X rfl (la_in (k := 1) h4 hL (by decide)) dzL_452 rfl ?_
  refine zv_go C okL_12 [] 40 ?_
  refine zv_sld C X rfl (la_in (k := 2) h4 hL (by decide)) dzL_461 rfl ?_
  refine zv_go C okL_12 [] 40 ?_
  refine la_call2 C hH inX9_row kL_73 (by decide) rfl (r0 := .long r) rfl (Nat.le_of_ble_eq_true rfl) rfl dzL_468 rfl (rmS hg.1) (fun μ' => ?_)
  refine zv_go C okL_12 [702] 40 ?_
  exact ⟨fun _ => hk σ' k' Lf' μ' hg.1 hg.2 h0, fun h => absurd (lg_cmp_self r) h⟩
set_option maxHeartbeats 4000000 in
set_option maxRecDepth 100000 in
theorem la_13 (C : zv_C x (gL K)) (X : zv_Sc x b L xs) {t : Nat} (h4 : 4 * t + 4 ≤ L) (hL : L ≤ 2048) {σ : dS} {B : Nat → Nat} {Lf : Nat → Bool} {μ : dQ} (hP : ∀ a1, zP K yX8_rank cX8_rank 3 yX9_rank cX9_rank 9 (some .long) [.long a1] σ B Lf μ t jV) (hk : laK x K b σ B t) : zv_V x (gL K) 477 (laV b (σ.1 0) (B 0) t) [] (wS K σ ++ wT K B σ.2.1.2.2.1 Lf μ) (lce σ) (lsl σ) := by
  refine zv_go C okL_13 [] 40 ?_
  refine zv_sld C X rfl (la_in (k := 1) h4 hL (by decide)) dzL_482 rfl ?_
  refine zv_go C okL_13 [] 40 ?_
  refine zv_sld C X rfl (la_in (k := 2) h4 hL (by decide)) dzL_491 rfl ?_
  obtain ⟨ans, k', Lf', ⟨r, rfl⟩, hG, hH⟩ := hP ((xs (nI (4 * t) + 1).toNatClampNeg).toInt64 <<< ((32 : Int32).toInt64 &&& 63) ||| (xs (nI (4 * t) + 2).toNatClampNeg).toInt64 &&& 4294967295)
  refine zv_go C okL_13 [] 40 ?_
  refine la_call1 C hG inX8_rank kL_74 (by decide) rfl rfl rfl dzL_498 rfl (fun σ' hg h0 => ?_)
  refine zv_go C okL_13 [] 40 ?_
  refine zv_sld C X rfl (la_in (k := 1) h4 hL (by decide)) dzL_506 rfl ?_
  refine zv_go C okL_13 [] 40 ?_
  refine zv_sld C X rfl (la_in (k := 2) h4 hL (by decide)) dzL_515 rfl ?_
  refine zv_go C okL_13 [] 40 ?_
  refine la_call2 C hH inX9_rank kL_77 (by decide) rfl (r0 := .long r) rfl (Nat.le_of_ble_eq_true rfl) rfl dzL_522 rfl (rmS hg.1) (fun μ' => ?_)
  refine zv_go C okL_13 [702] 40 ?_
  exact ⟨fun _ => hk σ' k' Lf' μ' hg.1 hg.2 h0, fun h => absurd (lg_cmp_self r) h⟩
set_option maxHeartbeats 4000000 in
set_option maxRecDepth 100000 in
theorem la_14 (C : zv_C x (gL K)) (X : zv_Sc x b L xs) {t : Nat} (h4 : 4 * t + 4 ≤ L) (hL : L ≤ 2048) {σ : dS} {B : Nat → Nat} {Lf : Nat → Bool} {μ : dQ} (hP : ∀ a1, zP K yX8_cut cX8_cut 2 yX9_cut cX9_cut 2 (some .int) [.int a1] σ B Lf μ t iV) (hk : laK x K b σ B t) : zv_V x (gL K) 531 (laV b (σ.1 0) (B 0) t) [] (wS K σ ++ wT K B σ.2.1.2.2.1 Lf μ) (lce σ) (lsl σ) := by
  refine zv_go C okL_14 [] 40 ?_
  refine zv_sld C X rfl (la_in (k := 1) h4 hL (by decide)) dzL_536 rfl ?_
  obtain ⟨ans, k', Lf', ⟨r, rfl⟩, hG, hH⟩ := hP (xs (nI (4 * t) + 1).toNatClampNeg)
  refine zv_go C okL_14 [] 40 ?_
  refine la_call1 C hG inX8_cut kL_78 (by decide) rfl rfl rfl dzL_537 rfl (fun σ' hg h0 => ?_)
  refine zv_go C okL_14 [] 40 ?_
  refine zv_sld C X rfl (la_in (k := 1) h4 hL (by decide)) dzL_545 rfl ?_
  refine zv_go C okL_14 [] 40 ?_
  refine la_call2 C hH inX9_cut kL_81 (by decide) rfl (r0 := .int r) rfl (Nat.le_of_ble_eq_true rfl) rfl dzL_546 rfl (rmS hg.1) (fun μ' => ?_)
  refine zv_go C okL_14 [702] 40 ?_
  exact ⟨fun _ => hk σ' k' Lf' μ' hg.1 hg.2 h0, fun h => absurd rfl h⟩
set_option maxHeartbeats 4000000 in
set_option maxRecDepth 100000 in
theorem la_15 (C : zv_C x (gL K)) (X : zv_Sc x b L xs) {t : Nat} (h4 : 4 * t + 4 ≤ L) (hL : L ≤ 2048) {σ : dS} {B : Nat → Nat} {Lf : Nat → Bool} {μ : dQ} (hP : ∀ a1, zP K yX8_least cX8_least 2 yX9_least cX9_least 2 (some .int) [.int a1] σ B Lf μ t iV) (hk : laK x K b σ B t) : zv_V x (gL K) 554 (laV b (σ.1 0) (B 0) t) [] (wS K σ ++ wT K B σ.2.1.2.2.1 Lf μ) (lce σ) (lsl σ) := by
  refine zv_go C okL_15 [] 40 ?_
  refine zv_sld C X rfl (la_in (k := 1) h4 hL (by decide)) dzL_559 rfl ?_
  obtain ⟨ans, k', Lf', ⟨r, rfl⟩, hG, hH⟩ := hP (xs (nI (4 * t) + 1).toNatClampNeg)
  refine zv_go C okL_15 [] 40 ?_
  refine la_call1 C hG inX8_least kL_82 (by decide) rfl rfl rfl dzL_560 rfl (fun σ' hg h0 => ?_)
  refine zv_go C okL_15 [] 40 ?_
  refine zv_sld C X rfl (la_in (k := 1) h4 hL (by decide)) dzL_568 rfl ?_
  refine zv_go C okL_15 [] 40 ?_
  refine la_call2 C hH inX9_least kL_85 (by decide) rfl (r0 := .int r) rfl (Nat.le_of_ble_eq_true rfl) rfl dzL_569 rfl (rmS hg.1) (fun μ' => ?_)
  refine zv_go C okL_15 [702] 40 ?_
  exact ⟨fun _ => hk σ' k' Lf' μ' hg.1 hg.2 h0, fun h => absurd rfl h⟩
set_option maxHeartbeats 4000000 in
set_option maxRecDepth 100000 in
theorem la_16 (C : zv_C x (gL K)) (X : zv_Sc x b L xs) {t : Nat} (h4 : 4 * t + 4 ≤ L) (hL : L ≤ 2048) {σ : dS} {B : Nat → Nat} {Lf : Nat → Bool} {μ : dQ} (hP : ∀ a1 a2 a3, zP K yX8_joined cX8_joined 6 yX9_joined cX9_joined 4 (some .int) [.int a1, .int a2, .int a3] σ B Lf μ t iV) (hk : laK x K b σ B t) : zv_V x (gL K) 577 (laV b (σ.1 0) (B 0) t) [] (wS K σ ++ wT K B σ.2.1.2.2.1 Lf μ) (lce σ) (lsl σ) := by
  refine zv_go C okL_16 [] 40 ?_
  refine zv_sld C X rfl (la_in (k := 1) h4 hL (by decide)) dzL_582 rfl ?_
  refine zv_go C okL_16 [] 40 ?_
  refine zv_sld C X rfl (la_in (k := 2) h4 hL (by decide)) dzL_587 rfl ?_
  refine zv_go C okL_16 [] 40 ?_
  refine zv_sld C X rfl (la_in (k := 3) h4 hL (by decide)) dzL_592 rfl ?_
  refine zv_go C okL_16 [] 40 ?_
  refine ⟨fun h3 => ?_, fun h3 => ?_⟩
  · obtain ⟨ans, k', Lf', ⟨r, rfl⟩, hG, hH⟩ := hP (xs (nI (4 * t) + 1).toNatClampNeg) (xs (nI (4 * t) + 2).toNatClampNeg) 0
    refine la_call1 C hG inX8_joined kL_86 (by decide) rfl rfl rfl dzL_601 rfl (fun σ' hg h0 => ?_)
    refine zv_go C okL_16 [] 40 ?_
    refine zv_sld C X rfl (la_in (k := 1) h4 hL (by decide)) dzL_609 rfl ?_
    refine zv_go C okL_16 [] 40 ?_
    refine zv_sld C X rfl (la_in (k := 2) h4 hL (by decide)) dzL_614 rfl ?_
    refine zv_go C okL_16 [] 40 ?_
    refine zv_sld C X rfl (la_in (k := 3) h4 hL (by decide)) dzL_619 rfl ?_
    refine zv_go C okL_16 [] 40 ?_
    refine ⟨fun _ => ?_, fun h5 => absurd h3 h5⟩
    refine la_call2 C hH inX9_joined kL_90 (by decide) rfl (r0 := .int r) rfl (Nat.le_of_ble_eq_true rfl) rfl dzL_628 rfl (rmS hg.1) (fun μ' => ?_)
    refine zv_go C okL_16 [702] 40 ?_
    exact ⟨fun _ => hk σ' k' Lf' μ' hg.1 hg.2 h0, fun h => absurd rfl h⟩
  · obtain ⟨ans, k', Lf', ⟨r, rfl⟩, hG, hH⟩ := hP (xs (nI (4 * t) + 1).toNatClampNeg) (xs (nI (4 * t) + 2).toNatClampNeg) 1
    refine la_call1 C hG inX8_joined kL_86 (by decide) rfl rfl rfl dzL_601 rfl (fun σ' hg h0 => ?_)
    refine zv_go C okL_16 [] 40 ?_
    refine zv_sld C X rfl (la_in (k := 1) h4 hL (by decide)) dzL_609 rfl ?_
    refine zv_go C okL_16 [] 40 ?_
    refine zv_sld C X rfl (la_in (k := 2) h4 hL (by decide)) dzL_614 rfl ?_
    refine zv_go C okL_16 [] 40 ?_
    refine zv_sld C X rfl (la_in (k := 3) h4 hL (by decide)) dzL_619 rfl ?_
    refine zv_go C okL_16 [] 40 ?_
    refine ⟨fun h5 => absurd h5 h3, fun _ => ?_⟩
    refine la_call2 C hH inX9_joined kL_90 (by decide) rfl (r0 := .int r) rfl (Nat.le_of_ble_eq_true rfl) rfl dzL_628 rfl (rmS hg.1) (fun μ' => ?_)
    refine zv_go C okL_16 [702] 40 ?_
    exact ⟨fun _ => hk σ' k' Lf' μ' hg.1 hg.2 h0, fun h => absurd rfl h⟩
set_option maxHeartbeats 4000000 in
set_option maxRecDepth 100000 in
theorem la_17 (C : zv_C x (gL K)) (X : zv_Sc x b L xs) {t : Nat} (h4 : 4 * t + 4 ≤ L) (hL : L ≤ 2048) {σ : dS} {B : Nat → Nat} {Lf : Nat → Bool} {μ : dQ} (hP : ∀ a1 a2, zP K yX8_mu cX8_mu 5 yX9_mu cX9_mu 9 (some .int) [.int a1, .int a2] σ B Lf μ t iV) (hk : laK x K b σ B t) : zv_V x (gL K) 636 (laV b (σ.1 0) (B 0) t) [] (wS K σ ++ wT K B σ.2.1.2.2.1 Lf μ) (lce σ) (lsl σ) := by
  refine zv_go C okL_17 [] 40 ?_
  refine zv_sld C X rfl (la_in (k := 1) h4 hL (by decide)) dzL_641 rfl ?_
  refine zv_go C okL_17 [] 40 ?_
  refine zv_sld C X rfl (la_in (k := 2) h4 hL (by decide)) dzL_646 rfl ?_
  obtain ⟨ans, k', Lf', ⟨r, rfl⟩, hG, hH⟩ := hP (xs (nI (4 * t) + 1).toNatClampNeg) (xs (nI (4 * t) + 2).toNatClampNeg)
  refine zv_go C okL_17 [] 40 ?_
  refine la_call1 C hG inX8_mu kL_91 (by decide) rfl rfl rfl dzL_647 rfl (fun σ' hg h0 => ?_)
  refine zv_go C okL_17 [] 40 ?_
  refine zv_sld C X rfl (la_in (k := 1) h4 hL (by decide)) dzL_655 rfl ?_
  refine zv_go C okL_17 [] 40 ?_
  refine zv_sld C X rfl (la_in (k := 2) h4 hL (by decide)) dzL_660 rfl ?_
  refine zv_go C okL_17 [] 40 ?_
  refine la_call2 C hH inX9_mu kL_94 (by decide) rfl (r0 := .int r) rfl (Nat.le_of_ble_eq_true rfl) rfl dzL_661 rfl (rmS hg.1) (fun μ' => ?_)
  refine zv_go C okL_17 [702] 40 ?_
  exact ⟨fun _ => hk σ' k' Lf' μ' hg.1 hg.2 h0, fun h => absurd rfl h⟩
set_option maxHeartbeats 4000000 in
set_option maxRecDepth 100000 in
theorem la_18 (C : zv_C x (gL K)) (X : zv_Sc x b L xs) {t : Nat} (h4 : 4 * t + 4 ≤ L) (hL : L ≤ 2048) {σ : dS} {B : Nat → Nat} {Lf : Nat → Bool} {μ : dQ} (hP : ∀ a1 a2, zP K yX8_muOfCuts cX8_muOfCuts 7 yX9_muOfCuts cX9_muOfCuts 7 (some .int) [.int a1, .int a2] σ B Lf μ t iV) (hk : laK x K b σ B t) : zv_V x (gL K) 669 (laV b (σ.1 0) (B 0) t) [] (wS K σ ++ wT K B σ.2.1.2.2.1 Lf μ) (lce σ) (lsl σ) := by
  refine zv_go C okL_18 [] 40 ?_
  refine zv_sld C X rfl (la_in (k := 1) h4 hL (by decide)) dzL_674 rfl ?_
  refine zv_go C okL_18 [] 40 ?_
  refine zv_sld C X rfl (la_in (k := 2) h4 hL (by decide)) dzL_679 rfl ?_
  obtain ⟨ans, k', Lf', ⟨r, rfl⟩, hG, hH⟩ := hP (xs (nI (4 * t) + 1).toNatClampNeg) (xs (nI (4 * t) + 2).toNatClampNeg)
  refine zv_go C okL_18 [] 40 ?_
  refine la_call1 C hG inX8_muOfCuts kL_95 (by decide) rfl rfl rfl dzL_680 rfl (fun σ' hg h0 => ?_)
  refine zv_go C okL_18 [] 40 ?_
  refine zv_sld C X rfl (la_in (k := 1) h4 hL (by decide)) dzL_688 rfl ?_
  refine zv_go C okL_18 [] 40 ?_
  refine zv_sld C X rfl (la_in (k := 2) h4 hL (by decide)) dzL_693 rfl ?_
  refine zv_go C okL_18 [] 40 ?_
  refine la_call2 C hH inX9_muOfCuts kL_98 (by decide) rfl (r0 := .int r) rfl (Nat.le_of_ble_eq_true rfl) rfl dzL_694 rfl (rmS hg.1) (fun μ' => ?_)
  refine zv_go C okL_18 [702] 40 ?_
  exact ⟨fun _ => hk σ' k' Lf' μ' hg.1 hg.2 h0, fun h => absurd rfl h⟩
end LW
