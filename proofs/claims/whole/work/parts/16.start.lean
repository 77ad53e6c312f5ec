/-! the law's entry: what the Statement gives, as the small machine wants it -/
theorem mk_AA_of {args : Array Value} {s : State} (h : (Cond.arrayOver (.array .int)).before args s = true) : mk_AA s := by
  simp only [Cond.before, Cond.holds, Cond.value, beq_iff_eq] at h
  cases hc : s.vm.findClass (FieldType.array .int).toString with
  | none => simp [hc] at h
  | some comp =>
    simp only [hc, Option.bind_some, Option.bind_eq_some_iff, Option.map_eq_some_iff] at h
    obtain ⟨c, hi, k, hk, hb⟩ := h
    obtain ⟨hlt, hp, -⟩ := Array.findIdx?_eq_some_iff_getElem.mp hi
    have hkk : s.vm.classes[c] = k := (Array.getElem?_eq_some_iff.mp hk).2
    rw [hkk] at hp
    cases hkind : k.kind with
    | array component ty =>
      rw [hkind] at hp hb
      simp only [beq_iff_eq] at hp
      simp only [Bool.and_eq_true, decide_eq_true_eq] at hb
      exact ⟨comp, c, k, hc, hi, hk, by rw [hkind, hp, hb.1], hb.2⟩
    | _ => rw [hkind] at hb; simp at hb
theorem mk_arr {args : Array Value} {s : State} {t : FieldType} (h : (Cond.arrayClass t).before args s = true) : ∃ cA : ClassId, s.vm.findClass ("[" ++ t.toString) = some cA ∧ ArrOfT s cA t := by
  obtain ⟨c, k, comp, h1, h2, h3⟩ := Cond.arrayClass_spec h
  exact ⟨c, h1, fun n z => ⟨fun q hq => (by cases hq), k, h2, comp, h3⟩⟩
theorem mk_arrO {args : Array Value} {s : State} {C : String} (h : (Cond.arrayOver (.object C)).before args s = true) : ∃ cA : ClassId, ArrOfT s cA (.object C) ∧ va_RA s cA (.object C) := by
  obtain ⟨comp, c, k, h1, h2, h3, h4, h5⟩ := Cond.arrayOver_spec h
  exact ⟨c, fun n z => ⟨fun q hq => (by cases hq), k, h3, comp, h4⟩, k, comp, h3, h4, h1, h5⟩
theorem mk_Kx {s : State} {args : Array Value} (hts : ∀ w ∈ mk_wt, w.before args s = true) (h2 : (Cond.arrayOver (.object RX2)).before args s = true) (h3 : (Cond.arrayOver (.object RX3)).before args s = true) (h7 : (Cond.arrayOver (.object RX7)).before args s = true) (hA : mk_AA s) : ∃ (D : va_G) (cy : Nat → ClassId), va_K D mk_cl (mk_tys cy) s := by
  obtain ⟨c0, i0, k0⟩ := u_known (C := RX0) (T := TX0) (N := 3) hts inX0 (hts _ ki_Clerk)
  obtain ⟨c1, i1, k1⟩ := u_known (C := RX1) (T := TX1) (N := 5) hts inX1 (hts _ ki_Coder)
  obtain ⟨c2, i2, k2⟩ := u_known (C := RX2) (T := TX2) (N := 7) hts inX2 (hts _ ki_Line)
  obtain ⟨c3, i3, k3⟩ := u_known (C := RX3) (T := TX3) (N := 2) hts inX3 (hts _ ki_Message)
  obtain ⟨c4, i4, k4⟩ := u_known (C := RX4) (T := TX4) (N := 9) hts inX4 (hts _ ki_Parser)
  obtain ⟨c5, i5, k5⟩ := u_known (C := RX5) (T := TX5) (N := 7) hts inX5 (hts _ ki_Past)
  obtain ⟨c6, i6, k6⟩ := u_known (C := RX6) (T := TX6) (N := 7) hts inX6 (hts _ ki_Router)
  obtain ⟨c7, i7, k7⟩ := u_known (C := RX7) (T := TX7) (N := 8) hts inX7 (hts _ ki_Rules)
  obtain ⟨c8, i8, k8⟩ := u_known (C := RX8) (T := TX8) (N := 8) hts inX8 (hts _ ki_Seeker)
  obtain ⟨c9, i9, k9⟩ := u_known (C := RX9) (T := TX9) (N := 5) hts inX9 (hts _ ki_Tape)
  obtain ⟨c10, i10, k10⟩ := u_known (C := RX10) (T := TX10) (N := 17) hts inX10 (hts _ ki_World)
  obtain ⟨c11, i11, k11⟩ := u_known (C := RX11) (T := TX11) (N := 11) hts inX11 (hts _ ki_LS)
  obtain ⟨c12, i12, k12⟩ := u_known (C := RX12) (T := TX12) (N := 40) hts inX12 (hts _ ki_Mo)
  obtain ⟨y13, e13, a13⟩ := mk_arr (hts _ ka_int)
  obtain ⟨y14, e14, a14⟩ := mk_arr (hts _ ka_long)
  obtain ⟨y15, a15, b15⟩ := mk_arrO h2
  obtain ⟨y16, a16, b16⟩ := mk_arrO h3
  obtain ⟨y17, a17, b17⟩ := mk_arrO h7
  obtain ⟨comp, y18, k, g1, g2, g3, g4, g5⟩ := hA
  refine ⟨(fun k => [c0, c1, c2, c3, c4, c5, c6, c7, c8, c9, c10, c11, c12].getD k 0, fun k => [i0, i1, i2, i3, i4, i5, i6, i7, i8, i9, i10, i11, i12].getD k (fun _ => 0)), fun k => match k with | 13 => y13 | 14 => y14 | 15 => y15 | 16 => y16 | 17 => y17 | _ => y18, ?_, ?_⟩
  · intro c q hq
    match c, hq with
    | 0, hq => cases hq; exact k0
    | 1, hq => cases hq; exact k1
    | 2, hq => cases hq; exact k2
    | 3, hq => cases hq; exact k3
    | 4, hq => cases hq; exact k4
    | 5, hq => cases hq; exact k5
    | 6, hq => cases hq; exact k6
    | 7, hq => cases hq; exact k7
    | 8, hq => cases hq; exact k8
    | 9, hq => cases hq; exact k9
    | 10, hq => cases hq; exact k10
    | 11, hq => cases hq; exact k11
    | 12, hq => cases hq; exact k12
    | c + 13, hq => simp [mk_cl] at hq
  · intro c q hq
    match c, hq with
    | 0, hq => cases hq; exact ⟨a13, e13⟩
    | 1, hq => cases hq; exact ⟨a14, e14⟩
    | 2, hq => cases hq; exact ⟨a15, b15⟩
    | 3, hq => cases hq; exact ⟨a16, b16⟩
    | 4, hq => cases hq; exact ⟨a17, b17⟩
    | 5, hq => cases hq; exact ⟨fun n z => ⟨fun q hq => (by cases hq), k, g3, comp, g4⟩, g5⟩
    | c + 6, hq => simp [mk_tys] at hq
def mk_tm (i : Nat) : Term := .string (mk_str.getD i ("", 0, "")).1 (mk_str.getD i ("", 0, "")).2.1
theorem nw_ex : ∀ i : Nat, i < 14 → Cond.exactly (mk_tm i) "java/lang/String" ∈ flatC narrow_1 := by
  have h : ∀ i : Nat, i < 14 → (flatC narrow_1)[([46, 122, 137, 147, 156, 167, 179, 191, 206, 221, 239, 258, 279, 299] : List Nat).getD i 0]? = some (Cond.exactly (mk_tm i) "java/lang/String") := by decide +kernel
  exact fun i hi => List.mem_of_getElem? (h i hi)
theorem nw_co : ∀ i : Nat, i < 14 → Cond.eq (.field (mk_tm i) "java/lang/String" "coder" "B") (.int 0) ∈ flatC narrow_1 := by
  have h : ∀ i : Nat, i < 14 → (flatC narrow_1)[([47, 123, 138, 148, 157, 168, 180, 192, 207, 222, 240, 259, 280, 300] : List Nat).getD i 0]? = some (Cond.eq (.field (mk_tm i) "java/lang/String" "coder" "B") (.int 0)) := by decide +kernel
  exact fun i hi => List.mem_of_getElem? (h i hi)
theorem nw_ar : ∀ i : Nat, i < 14 → Cond.arrayOf (.field (mk_tm i) "java/lang/String" "value" "[B") .byte ∈ flatC narrow_1 := by
  have h : ∀ i : Nat, i < 14 → (flatC narrow_1)[([48, 124, 139, 149, 158, 169, 181, 193, 208, 223, 241, 260, 281, 301] : List Nat).getD i 0]? = some (Cond.arrayOf (.field (mk_tm i) "java/lang/String" "value" "[B") .byte) := by decide +kernel
  exact fun i hi => List.mem_of_getElem? (h i hi)
theorem nw_le : ∀ i : Nat, i < 14 → Cond.eq (.length (.field (mk_tm i) "java/lang/String" "value" "[B")) (.int (Int32.ofNat ((mj_bt.map List.length).getD i 0))) ∈ flatC narrow_1 := by
  have h : ∀ i : Nat, i < 14 → (flatC narrow_1)[([49, 125, 140, 150, 159, 170, 182, 194, 209, 224, 242, 261, 282, 302] : List Nat).getD i 0]? = some (Cond.eq (.length (.field (mk_tm i) "java/lang/String" "value" "[B")) (.int (Int32.ofNat ((mj_bt.map List.length).getD i 0)))) := by decide +kernel
  exact fun i hi => List.mem_of_getElem? (h i hi)
theorem nw_el : ∀ i : Nat, i < 14 → ∀ j : Nat, j < (mj_bt.map List.length).getD i 0 → Cond.eq (.elem (.field (mk_tm i) "java/lang/String" "value" "[B") (.int (Int32.ofNat j))) (.int ((mj_bt.getD i []).getD j 0)) ∈ flatC narrow_1 := by
  have h : ∀ i : Nat, i < 14 → ∀ j : Nat, j < (mj_bt.map List.length).getD i 0 → (flatC narrow_1)[(([[50, 51, 52, 53, 54, 55, 56, 57, 58, 59, 60, 61, 62, 63, 64, 65, 66, 67, 68, 69, 70, 71, 72, 73, 74, 75, 76, 77, 78, 79, 80, 81, 82, 83, 84, 85, 86, 87, 88, 89, 90, 91, 92, 93, 94, 95, 96, 97, 98, 99, 100, 101, 102, 103, 104, 105, 106, 107, 108, 109, 110, 111, 112, 113, 114, 115, 116, 117, 118, 119, 120, 121], [126, 127, 128, 129, 130, 131, 132, 133, 134, 135], [141, 142, 143, 144], [151, 152], [160, 161, 162], [171, 172, 173], [183, 184], [195, 196, 197, 198], [210, 211, 212], [225, 226, 227, 228, 229], [243, 244, 245, 246, 247], [262, 263, 264, 265, 266, 267], [283, 284, 285, 286], [303, 304, 305, 306, 307]] : List (List Nat)).getD i []).getD j 0]? = some (Cond.eq (.elem (.field (mk_tm i) "java/lang/String" "value" "[B") (.int (Int32.ofNat j))) (.int ((mj_bt.getD i []).getD j 0))) := by decide +kernel
  exact fun i hi j hj => List.mem_of_getElem? (h i hi j hj)
theorem nw_ne : ∀ i : Nat, i < 14 → ∀ j : Nat, j < 14 → i ≠ j → (Cond.not (Cond.eq (mk_tm i) (mk_tm j)) ∈ flatC narrow_1 ∨ Cond.not (Cond.eq (mk_tm j) (mk_tm i)) ∈ flatC narrow_1) := by
  have h : ∀ i : Nat, i < 14 → ∀ j : Nat, j < i → (flatC narrow_1)[(([[0, 136, 145, 153, 163, 174, 185, 199, 213, 230, 248, 268, 287, 308], [136, 0, 146, 154, 164, 175, 186, 200, 214, 231, 249, 269, 288, 309], [145, 146, 0, 155, 165, 176, 187, 201, 215, 232, 250, 270, 289, 310], [153, 154, 155, 0, 166, 177, 188, 202, 216, 233, 251, 271, 290, 311], [163, 164, 165, 166, 0, 178, 189, 203, 217, 234, 252, 272, 291, 312], [174, 175, 176, 177, 178, 0, 190, 204, 218, 235, 253, 273, 292, 313], [185, 186, 187, 188, 189, 190, 0, 205, 219, 236, 254, 274, 293, 314], [199, 200, 201, 202, 203, 204, 205, 0, 220, 237, 255, 275, 294, 315], [213, 214, 215, 216, 217, 218, 219, 220, 0, 238, 256, 276, 295, 316], [230, 231, 232, 233, 234, 235, 236, 237, 238, 0, 257, 277, 296, 317], [248, 249, 250, 251, 252, 253, 254, 255, 256, 257, 0, 278, 297, 318], [268, 269, 270, 271, 272, 273, 274, 275, 276, 277, 278, 0, 298, 319], [287, 288, 289, 290, 291, 292, 293, 294, 295, 296, 297, 298, 0, 320], [308, 309, 310, 311, 312, 313, 314, 315, 316, 317, 318, 319, 320, 0]] : List (List Nat)).getD i []).getD j 0]? = some (Cond.not (Cond.eq (mk_tm j) (mk_tm i))) := by decide +kernel
  intro i hi j hj hij
  rcases Nat.lt_or_gt_of_ne hij with q | q
  · exact Or.inl (List.mem_of_getElem? (h j hj i q))
  · exact Or.inr (List.mem_of_getElem? (h i hi j q))
theorem nw_sr : ∀ i : Nat, i < 14 → Cond.stringRef (mk_str.getD i ("", 0, "")).1 (mk_str.getD i ("", 0, "")).2.1 (mk_str.getD i ("", 0, "")).2.2 ∈ tables_1 := by decide +kernel
theorem nw_cs : Cond.eq (.static "java/lang/String" "COMPACT_STRINGS" "Z") (.int 1) ∈ flatC narrow_1 := by decide +kernel
theorem nw_fo : Cond.isRef (.static "jdk/internal/util/Preconditions" "SIOOBE_FORMATTER" "Ljava/util/function/BiFunction;") ∈ flatC narrow_1 := by decide +kernel
theorem nw_w1 : Cond.laysStatic "java/lang/String" "COMPACT_STRINGS" "Z" ∈ tables_1 ∧ Cond.initialized "java/lang/String" ∈ tables_1 ∧ Cond.laysStatic "jdk/internal/util/Preconditions" "SIOOBE_FORMATTER" "Ljava/util/function/BiFunction;" ∈ tables_1 ∧ Cond.initialized "jdk/internal/util/Preconditions" ∈ tables_1 := by decide +kernel
theorem nw_w2 : Cond.arrayOver (.object RX2) ∈ tables_1 ∧ Cond.arrayOver (.object RX3) ∈ tables_1 ∧ Cond.arrayOver (.object RX7) ∈ tables_1 ∧ Cond.arrayOver (.array .int) ∈ tables_1 := by decide +kernel
theorem mk_strlen : ∀ i : Nat, i < 14 → (mj_bt.map List.length).getD i 0 < 2 ^ 31 := by decide +kernel
theorem mk_strq : ∀ i : Nat, i < 14 → mk_str[i]? = some (mk_str.getD i ("", 0, "")) := by decide +kernel
/-- what is asked of the small machine -/
def lw_Run (n : Nat) (xs : Nat → Int32) (P : mj_P) (I : mj_I) (J : mj_J) : Prop := mj_Rn (t_Lw n xs) (mj_ret mj_pr 400) (fun _ _ _ _ _ => True) (600000, 7302250) 0 [some (.retAddr 100), none, none, none] [] (0, 0) [] P I J
set_option maxHeartbeats 4000000 in
theorem whole_of (hrun : ∀ (n : Nat) (xs : Nat → Int32) (P : mj_P) (I : mj_I) (J : mj_J), n ≤ 3584 → lw_Run n xs P I J) {p : Program} {e : Env} {s : State} {m : MethodId} {below : List Frame} {meth : Method} {c : Code} (l : Launch) {b L : Nat} {xs : Nat → Int32} (hL : L ≤ 3584) (C0 : lw_At p s m meth c b L xs) : W p l e room_1 s m #[Value.ref b] below meth c s.heap [] 0 0 (lw_Z below #[Value.ref b] s) (entryFrame m ([Value.ref b] : List Value).toArray 4) := by
  obtain ⟨hx, hb, hr, hml, hown, hts, hX, hbl, hlocks, hgv⟩ := id C0
  have hA : ∀ a : Nat, a < s.heap.size → ¬ mk_A s.heap.size a := fun a h q => absurd q (Nat.not_le.mpr h)
  have hnar : ∀ c ∈ flatC narrow_1, c.before #[Value.ref b] s = true := by
    have h := hgv
    rw [Cond.before_and, Bool.and_eq_true] at h
    exact flat_of_before _ h.2
  have ht1 : ∀ w ∈ tables_1, w.before #[Value.ref b] s = true := fun w hw => hts w (List.mem_append_right _ hw)
  have htw : ∀ w ∈ mk_wt, w.before #[Value.ref b] s = true := fun w hw => hts w (List.mem_filter.mp hw).1
  have hAA := mk_AA_of (ht1 _ nw_w2.2.2.2)
  obtain ⟨D, cy, hK⟩ := mk_Kx htw (ht1 _ nw_w2.1) (ht1 _ nw_w2.2.1) (ht1 _ nw_w2.2.2.1) hAA
  obtain ⟨adK, adV, hS, hev⟩ := vk_Sof (N := 14) (tm := mk_tm) (len := mj_bt.map List.length) (byt := mj_bt) (A := mk_A s.heap.size) mk_strlen (fun i hi => hnar _ (nw_ex i hi)) (fun i hi => hnar _ (nw_co i hi)) (fun i hi => hnar _ (nw_ar i hi)) (fun i hi => hnar _ (nw_le i hi)) (fun i hi j hj => hnar _ (nw_el i hi j hj)) (fun i j hi hj hij => (nw_ne i hi j hj hij).imp (hnar _) (hnar _)) hA
  have hZ := va_Zof (A := mk_A s.heap.size) (ht1 _ nw_w1.1) (ht1 _ nw_w1.2.1) (va_eqt (hnar _ nw_cs)) hA
  have hF := va_Zqof (A := mk_A s.heap.size) (ht1 _ nw_w1.2.2.1) (ht1 _ nw_w1.2.2.2) (hnar _ nw_fo) hA
  obtain ⟨fv, hfv, hfc⟩ : ∃ fv : Value, va_Z "jdk/internal/util/Preconditions" "SIOOBE_FORMATTER" "Ljava/util/function/BiFunction;" fv (mk_A s.heap.size) s s.heap ∧ fv.category = 1 := by
    rcases hF with h | ⟨t, h⟩
    · exact ⟨_, h, rfl⟩
    · exact ⟨_, h, rfl⟩
  obtain ⟨sk, hsk⟩ : ∃ sk : Nat → Value, sk = fun j => if j = 99 then fv else if j = 100 then .ref b else if j % 2 = 0 then .ref (adK (j / 2)) else .ref (adV (j / 2)) := ⟨_, rfl⟩
  have s99 : sk 99 = fv := by rw [hsk]; rfl
  have s100 : sk 100 = .ref b := by rw [hsk]; rfl
  have sK : ∀ i, i < 14 → sk (2 * i) = .ref (adK i) ∧ sk (2 * i + 1) = .ref (adV i) := fun i hi => by
    rw [hsk]
    constructor
    · simp only []
      rw [if_neg (by omega), if_neg (by omega), if_pos (by omega), show 2 * i / 2 = i by omega]
    · simp only []
      rw [if_neg (by omega), if_neg (by omega), if_neg (by omega), show (2 * i + 1) / 2 = i by omega]
  have sr : mk_sr sk := fun j hj => by
    rw [hsk]
    simp only [if_neg hj]
    split
    · exact ⟨_, rfl⟩
    · split <;> exact ⟨_, rfl⟩
  have sc : ∀ j, (sk j).category = 1 := fun j => by
    by_cases hj : j = 99
    · rw [hj, s99]; exact hfc
    · obtain ⟨x, hx⟩ := sr j hj
      rw [hx]; rfl
  have hXt : mk_Xt s.heap.size sk s s.heap := ⟨adK, adV, hS, sK, hZ, by rw [s99]; exact hfv, sc⟩
  have hYt : mk_Yt sk s := by
    refine ⟨fun j q hq a ha => ?_, va_AO.of (ht1 _ nw_w2.1), va_AO.of (ht1 _ nw_w2.2.1), va_AO.of (ht1 _ nw_w2.2.2.1), hAA⟩
    have hj : j < 14 := (List.getElem?_eq_some_iff.mp hq).1
    have e1 := mk_strq j hj
    rw [hq] at e1
    have e2 : q = mk_str.getD j ("", 0, "") := Option.some.inj e1
    subst e2
    have e3 : Value.ref (adK j) = .ref a := (sK j hj).1.symm.trans ha
    have e4 := hev j hj
    rw [e3] at e4
    exact vk_R.of (ht1 _ (nw_sr j hj)) e4
  have K : mk_Cx p room_1 s m #[Value.ref b] meth c code R_law 4 D cy s.heap.size sk (600000, 7302250) := ⟨hx, hb, hml, hown, htw, hK, Nat.le_refl _, hlocks, hXt, ⟨rfl, rfl⟩, ⟨by decide, by decide⟩⟩
  have hbA : ¬ mk_A s.heap.size b := Nat.not_le.mpr hbl
  have hrows := rw_Lw (l := l) (e := e) (below := below) (cr := mj_ret mj_pr 400) (Q := fun _ _ _ _ _ => True) (d := 400) K hr (Nat.le_refl _) sr hYt ⟨by decide, by decide⟩ (mk_all l 400) hX hbl hbA s100
  have hgo := hrun L xs (fun _ _ => none) (fun _ _ => 0) (fun _ _ => 0) hL (mk_X p l e room_1 s m #[Value.ref b] below meth c (lw_Z below #[Value.ref b] s) 4 D cy s.heap.size sk) (fun pc L st u sh P I J hq => mk_lk hrows pc L st u sh P I J hq)
  have hl := lv_entry ([.ref b]) (n := 4) (Nat.le_of_ble_eq_true rfl)
  rw [lg_entry_eq]
  refine hgo s.heap [] _ ⟨hl.1, hl.2.1, fun i v hv => ?_⟩ rfl ⟨Nat.zero_le _, Nat.zero_le _⟩ (fun k q h => by simp [mk_W] at h) va_S.rf
  match i, hv with
  | 0, hv =>
    cases hv
    show _ = some (Slot.val (sk 100))
    rw [s100]
    exact lv_at hl 0 rfl
  | 1, hv => cases hv
  | 2, hv => cases hv
  | 3, hv => cases hv
  | i + 4, hv => simp at hv
