/-! the law -/
set_option maxRecDepth 8000 in
set_option maxHeartbeats 20000000 in
theorem lw_all (n : Nat) (xs : Nat → Int32) (P : mj_P) (I : mj_I) (J : mj_J) (hn : n ≤ 3584) : lw_Run n xs P I J := by
  intro X F
  have lp : ∀ m i (u : Nat × Nat) sh P I J, n < i + 7 * m + 7 → i ≤ n → 7 * u.1 ≤ 1400 + 54 * i → 7 * u.2 ≤ 210000 + 3355 * i → Inv sh P I J → X 18 [some (.retAddr 100), some (.ref 0), some (.ref 139), some (.int (nI i))] [] u sh P I J := by
    intro m
    induction m with
    | zero =>
      intro i u sh P I J h1 h2 h3 h4 h
      (apply F; conv => whnf)
      (apply F; conv => whnf)
      (apply F; conv => whnf)
      (apply F; conv => whnf)
      (apply F; conv => whnf)
      (apply F; conv => whnf)
      refine ⟨fun _ => ?_, fun q => absurd ((lw_cmp hn (by omega)).mpr (by omega)) q⟩
      (apply F; conv => whnf)
      (apply F; conv => whnf)
    | succ m ih =>
      intro i u sh P I J h1 h2 h3 h4 h
      (apply F; conv => whnf)
      (apply F; conv => whnf)
      (apply F; conv => whnf)
      (apply F; conv => whnf)
      (apply F; conv => whnf)
      (apply F; conv => whnf)
      refine ⟨fun _ => ?_, fun q => ?_⟩
      · (apply F; conv => whnf)
        (apply F; conv => whnf)
      have hi : i + 7 ≤ n := by
        have : ¬ n < i + 7 := fun w => q ((lw_cmp hn (by omega)).mpr w)
        omega
      have k0 : mj_kd sh 0 = 11 := by
        obtain ⟨e, P0, r0, r1, r2, r3, rs, kp, ps, tp, fk, fp, dy, ln, sn, dr, pl, sl, cl, lf, bk, lk, rl, cz, a1, _⟩ := id h
        rw [a1]; rfl
      have v0 : vp_in (nI i) n := vpq n rfl (by omega) (by omega)
      have v1 : vp_in (nI i + 1) n := by rw [show nI i + 1 = nI (i + 1) from ni_aR i 1]; exact vpq n rfl (by omega) (by omega)
      have v2 : vp_in (nI i + 2) n := by rw [show nI i + 2 = nI (i + 2) from ni_aR i 2]; exact vpq n rfl (by omega) (by omega)
      have v3 : vp_in (nI i + 3) n := by rw [show nI i + 3 = nI (i + 3) from ni_aR i 3]; exact vpq n rfl (by omega) (by omega)
      have v4 : vp_in (nI i + 4) n := by rw [show nI i + 4 = nI (i + 4) from ni_aR i 4]; exact vpq n rfl (by omega) (by omega)
      have v5 : vp_in (nI i + 5) n := by rw [show nI i + 5 = nI (i + 5) from ni_aR i 5]; exact vpq n rfl (by omega) (by omega)
      have v6 : vp_in (nI i + 6) n := by rw [show nI i + 6 = nI (i + 6) from ni_aR i 6]; exact vpq n rfl (by omega) (by omega)
      have fin : ∀ (u' : Nat × Nat) sh P I J, 7 * u'.1 ≤ 1400 + 54 * (i + 7) → 7 * u'.2 ≤ 210000 + 3355 * (i + 7) → Inv sh P I J → X 1039 [some (.retAddr 100), some (.ref 0), some (.ref 139), some (.int (nI i))] [] u' sh P I J := by
        intro u' sh P I J g3 g4 g
        (apply F; conv => whnf)
        (apply F; conv => whnf)
        have := ih (i + 7) u' sh P I J (by omega) (by omega) g3 g4 g
        rw [← show nI i + 7 = nI (i + 7) from ni_aR i 7] at this
        exact this
      have c152 : X 152 [some (.retAddr 100), some (.ref 0), some (.ref 139), some (.int (nI i))] [] u sh P I J := by
        (apply F; conv => whnf)
        (apply F; conv => whnf)
        (apply F; conv => whnf)
        (apply F; conv => whnf)
        (apply F; conv => whnf)
        (apply F; conv => whnf)
        refine ⟨v1, ?_⟩
        (apply F; conv => whnf)
        refine ⟨k0, OP_state h (fun v e1 P1 I1 J1 H => ?_)⟩
        (apply F; conv => whnf)
        (apply F; conv => whnf)
        (apply F; conv => whnf)
        (apply F; conv => whnf)
        (apply F; conv => whnf)
        (apply F; conv => whnf)
        refine ⟨v1, ?_⟩
        (apply F; conv => whnf)
        refine ⟨rfl, H _ (fun sh2 P2 I2 J2 h2 => ?_)⟩
        (apply F; conv => whnf)
        exact ⟨fun _ => fin _ _ _ _ _ (by omega) (by omega) h2, fun q => absurd rfl q⟩
      have c175 : X 175 [some (.retAddr 100), some (.ref 0), some (.ref 139), some (.int (nI i))] [] u sh P I J := by
        (apply F; conv => whnf)
        (apply F; conv => whnf)
        (apply F; conv => whnf)
        (apply F; conv => whnf)
        (apply F; conv => whnf)
        (apply F; conv => whnf)
        refine ⟨v1, ?_⟩
        (apply F; conv => whnf)
        (apply F; conv => whnf)
        (apply F; conv => whnf)
        (apply F; conv => whnf)
        (apply F; conv => whnf)
        refine ⟨v2, ?_⟩
        (apply F; conv => whnf)
        (apply F; conv => whnf)
        (apply F; conv => whnf)
        (apply F; conv => whnf)
        (apply F; conv => whnf)
        refine ⟨v3, ?_⟩
        (apply F; conv => whnf)
        (apply F; conv => whnf)
        (apply F; conv => whnf)
        (apply F; conv => whnf)
        (apply F; conv => whnf)
        refine ⟨v4, ?_⟩
        (apply F; conv => whnf)
        (apply F; conv => whnf)
        (apply F; conv => whnf)
        (apply F; conv => whnf)
        (apply F; conv => whnf)
        refine ⟨v5, ?_⟩
        (apply F; conv => whnf)
        (apply F; conv => whnf)
        (apply F; conv => whnf)
        (apply F; conv => whnf)
        (apply F; conv => whnf)
        refine ⟨v6, ?_⟩
        (apply F; conv => whnf)
        refine ⟨k0, OP_line h (fun v e1 P1 I1 J1 H => ?_)⟩
        (apply F; conv => whnf)
        (apply F; conv => whnf)
        (apply F; conv => whnf)
        (apply F; conv => whnf)
        (apply F; conv => whnf)
        (apply F; conv => whnf)
        refine ⟨v1, ?_⟩
        (apply F; conv => whnf)
        (apply F; conv => whnf)
        (apply F; conv => whnf)
        (apply F; conv => whnf)
        (apply F; conv => whnf)
        refine ⟨v2, ?_⟩
        (apply F; conv => whnf)
        (apply F; conv => whnf)
        (apply F; conv => whnf)
        (apply F; conv => whnf)
        (apply F; conv => whnf)
        refine ⟨v3, ?_⟩
        (apply F; conv => whnf)
        (apply F; conv => whnf)
        (apply F; conv => whnf)
        (apply F; conv => whnf)
        (apply F; conv => whnf)
        refine ⟨v4, ?_⟩
        (apply F; conv => whnf)
        (apply F; conv => whnf)
        (apply F; conv => whnf)
        (apply F; conv => whnf)
        (apply F; conv => whnf)
        refine ⟨v5, ?_⟩
        (apply F; conv => whnf)
        (apply F; conv => whnf)
        (apply F; conv => whnf)
        (apply F; conv => whnf)
        (apply F; conv => whnf)
        refine ⟨v6, ?_⟩
        (apply F; conv => whnf)
        refine ⟨rfl, H _ (fun sh2 P2 I2 J2 h2 => ?_)⟩
        (apply F; conv => whnf)
        exact ⟨fun _ => fin _ _ _ _ _ (by omega) (by omega) h2, fun q => absurd rfl q⟩
      have c250 : X 250 [some (.retAddr 100), some (.ref 0), some (.ref 139), some (.int (nI i))] [] u sh P I J := by
        (apply F; conv => whnf)
        (apply F; conv => whnf)
        (apply F; conv => whnf)
        (apply F; conv => whnf)
        (apply F; conv => whnf)
        (apply F; conv => whnf)
        refine ⟨v1, ?_⟩
        (apply F; conv => whnf)
        (apply F; conv => whnf)
        (apply F; conv => whnf)
        (apply F; conv => whnf)
        (apply F; conv => whnf)
        refine ⟨v2, ?_⟩
        (apply F; conv => whnf)
        (apply F; conv => whnf)
        (apply F; conv => whnf)
        (apply F; conv => whnf)
        (apply F; conv => whnf)
        refine ⟨v3, ?_⟩
        (apply F; conv => whnf)
        refine ⟨k0, OP_set h (fun v e1 P1 I1 J1 H => ?_)⟩
        (apply F; conv => whnf)
        (apply F; conv => whnf)
        (apply F; conv => whnf)
        (apply F; conv => whnf)
        (apply F; conv => whnf)
        (apply F; conv => whnf)
        refine ⟨v1, ?_⟩
        (apply F; conv => whnf)
        (apply F; conv => whnf)
        (apply F; conv => whnf)
        (apply F; conv => whnf)
        (apply F; conv => whnf)
        refine ⟨v2, ?_⟩
        (apply F; conv => whnf)
        (apply F; conv => whnf)
        (apply F; conv => whnf)
        (apply F; conv => whnf)
        (apply F; conv => whnf)
        refine ⟨v3, ?_⟩
        (apply F; conv => whnf)
        refine ⟨rfl, H _ (fun sh2 P2 I2 J2 h2 => ?_)⟩
        (apply F; conv => whnf)
        exact ⟨fun _ => fin _ _ _ _ _ (by omega) (by omega) h2, fun q => absurd rfl q⟩
      have c293 : X 293 [some (.retAddr 100), some (.ref 0), some (.ref 139), some (.int (nI i))] [] u sh P I J := by
        (apply F; conv => whnf)
        (apply F; conv => whnf)
        (apply F; conv => whnf)
        (apply F; conv => whnf)
        (apply F; conv => whnf)
        (apply F; conv => whnf)
        refine ⟨v1, ?_⟩
        (apply F; conv => whnf)
        (apply F; conv => whnf)
        (apply F; conv => whnf)
        (apply F; conv => whnf)
        (apply F; conv => whnf)
        refine ⟨v2, ?_⟩
        (apply F; conv => whnf)
        refine ⟨k0, OP_write h (fun v e1 P1 I1 J1 H => ?_)⟩
        (apply F; conv => whnf)
        (apply F; conv => whnf)
        (apply F; conv => whnf)
        (apply F; conv => whnf)
        (apply F; conv => whnf)
        (apply F; conv => whnf)
        refine ⟨v1, ?_⟩
        (apply F; conv => whnf)
        (apply F; conv => whnf)
        (apply F; conv => whnf)
        (apply F; conv => whnf)
        (apply F; conv => whnf)
        refine ⟨v2, ?_⟩
        (apply F; conv => whnf)
        refine ⟨rfl, H _ (fun sh2 P2 I2 J2 h2 => ?_)⟩
        (apply F; conv => whnf)
        exact ⟨fun _ => fin _ _ _ _ _ (by omega) (by omega) h2, fun q => absurd rfl q⟩
      have c326 : X 326 [some (.retAddr 100), some (.ref 0), some (.ref 139), some (.int (nI i))] [] u sh P I J := by
        (apply F; conv => whnf)
        (apply F; conv => whnf)
        (apply F; conv => whnf)
        (apply F; conv => whnf)
        (apply F; conv => whnf)
        (apply F; conv => whnf)
        refine ⟨v1, ?_⟩
        (apply F; conv => whnf)
        refine ⟨k0, OP_blank h (fun v e1 P1 I1 J1 H => ?_)⟩
        (apply F; conv => whnf)
        (apply F; conv => whnf)
        (apply F; conv => whnf)
        (apply F; conv => whnf)
        (apply F; conv => whnf)
        (apply F; conv => whnf)
        refine ⟨v1, ?_⟩
        (apply F; conv => whnf)
        refine ⟨rfl, H _ (fun sh2 P2 I2 J2 h2 => ?_)⟩
        (apply F; conv => whnf)
        exact ⟨fun _ => fin _ _ _ _ _ (by omega) (by omega) h2, fun q => absurd rfl q⟩
      have c349 : X 349 [some (.retAddr 100), some (.ref 0), some (.ref 139), some (.int (nI i))] [] u sh P I J := by
        (apply F; conv => whnf)
        (apply F; conv => whnf)
        (apply F; conv => whnf)
        (apply F; conv => whnf)
        (apply F; conv => whnf)
        (apply F; conv => whnf)
        refine ⟨v1, ?_⟩
        (apply F; conv => whnf)
        (apply F; conv => whnf)
        (apply F; conv => whnf)
        (apply F; conv => whnf)
        (apply F; conv => whnf)
        refine ⟨v2, ?_⟩
        (apply F; conv => whnf)
        refine ⟨k0, OP_read h (fun v e1 P1 I1 J1 H => ?_)⟩
        (apply F; conv => whnf)
        (apply F; conv => whnf)
        (apply F; conv => whnf)
        (apply F; conv => whnf)
        (apply F; conv => whnf)
        (apply F; conv => whnf)
        refine ⟨v1, ?_⟩
        (apply F; conv => whnf)
        (apply F; conv => whnf)
        (apply F; conv => whnf)
        (apply F; conv => whnf)
        (apply F; conv => whnf)
        refine ⟨v2, ?_⟩
        (apply F; conv => whnf)
        refine ⟨rfl, H _ (fun sh2 P2 I2 J2 h2 => ?_)⟩
        (apply F; conv => whnf)
        exact ⟨fun _ => fin _ _ _ _ _ (by omega) (by omega) h2, fun q => absurd rfl q⟩
      have c382 : X 382 [some (.retAddr 100), some (.ref 0), some (.ref 139), some (.int (nI i))] [] u sh P I J := by
        (apply F; conv => whnf)
        (apply F; conv => whnf)
        (apply F; conv => whnf)
        (apply F; conv => whnf)
        (apply F; conv => whnf)
        (apply F; conv => whnf)
        refine ⟨v1, ?_⟩
        (apply F; conv => whnf)
        (apply F; conv => whnf)
        (apply F; conv => whnf)
        (apply F; conv => whnf)
        (apply F; conv => whnf)
        refine ⟨v2, ?_⟩
        (apply F; conv => whnf)
        (apply F; conv => whnf)
        (apply F; conv => whnf)
        (apply F; conv => whnf)
        (apply F; conv => whnf)
        refine ⟨v3, ?_⟩
        (apply F; conv => whnf)
        (apply F; conv => whnf)
        (apply F; conv => whnf)
        (apply F; conv => whnf)
        (apply F; conv => whnf)
        refine ⟨v4, ?_⟩
        (apply F; conv => whnf)
        (apply F; conv => whnf)
        (apply F; conv => whnf)
        (apply F; conv => whnf)
        (apply F; conv => whnf)
        refine ⟨v5, ?_⟩
        (apply F; conv => whnf)
        refine ⟨k0, OP_feed h (fun v e1 P1 I1 J1 H => ?_)⟩
        (apply F; conv => whnf)
        (apply F; conv => whnf)
        (apply F; conv => whnf)
        (apply F; conv => whnf)
        (apply F; conv => whnf)
        (apply F; conv => whnf)
        refine ⟨v1, ?_⟩
        (apply F; conv => whnf)
        (apply F; conv => whnf)
        (apply F; conv => whnf)
        (apply F; conv => whnf)
        (apply F; conv => whnf)
        refine ⟨v2, ?_⟩
        (apply F; conv => whnf)
        (apply F; conv => whnf)
        (apply F; conv => whnf)
        (apply F; conv => whnf)
        (apply F; conv => whnf)
        refine ⟨v3, ?_⟩
        (apply F; conv => whnf)
        (apply F; conv => whnf)
        (apply F; conv => whnf)
        (apply F; conv => whnf)
        (apply F; conv => whnf)
        refine ⟨v4, ?_⟩
        (apply F; conv => whnf)
        (apply F; conv => whnf)
        (apply F; conv => whnf)
        (apply F; conv => whnf)
        (apply F; conv => whnf)
        refine ⟨v5, ?_⟩
        (apply F; conv => whnf)
        refine ⟨rfl, H _ (fun sh2 P2 I2 J2 h2 => ?_)⟩
        (apply F; conv => whnf)
        exact ⟨fun _ => fin _ _ _ _ _ (by omega) (by omega) h2, fun q => absurd rfl q⟩
      have c445 : X 445 [some (.retAddr 100), some (.ref 0), some (.ref 139), some (.int (nI i))] [] u sh P I J := by
        (apply F; conv => whnf)
        (apply F; conv => whnf)
        (apply F; conv => whnf)
        (apply F; conv => whnf)
        (apply F; conv => whnf)
        (apply F; conv => whnf)
        refine ⟨v1, ?_⟩
        (apply F; conv => whnf)
        refine ⟨k0, OP_end h (fun v e1 P1 I1 J1 H => ?_)⟩
        (apply F; conv => whnf)
        (apply F; conv => whnf)
        (apply F; conv => whnf)
        (apply F; conv => whnf)
        (apply F; conv => whnf)
        (apply F; conv => whnf)
        refine ⟨v1, ?_⟩
        (apply F; conv => whnf)
        refine ⟨rfl, H _ (fun sh2 P2 I2 J2 h2 => ?_)⟩
        (apply F; conv => whnf)
        exact ⟨fun _ => fin _ _ _ _ _ (by omega) (by omega) h2, fun q => absurd rfl q⟩
      have c468 : X 468 [some (.retAddr 100), some (.ref 0), some (.ref 139), some (.int (nI i))] [] u sh P I J := by
        (apply F; conv => whnf)
        (apply F; conv => whnf)
        (apply F; conv => whnf)
        (apply F; conv => whnf)
        (apply F; conv => whnf)
        (apply F; conv => whnf)
        refine ⟨v1, ?_⟩
        (apply F; conv => whnf)
        refine ⟨k0, OP_text h (fun v e1 P1 I1 J1 H => ?_)⟩
        (apply F; conv => whnf)
        (apply F; conv => whnf)
        (apply F; conv => whnf)
        (apply F; conv => whnf)
        (apply F; conv => whnf)
        (apply F; conv => whnf)
        refine ⟨v1, ?_⟩
        (apply F; conv => whnf)
        refine ⟨rfl, H _ (fun sh2 P2 I2 J2 h2 => ?_)⟩
        (apply F; conv => whnf)
        exact ⟨fun _ => fin _ _ _ _ _ (by omega) (by omega) h2, fun q => absurd rfl q⟩
      have c491 : X 491 [some (.retAddr 100), some (.ref 0), some (.ref 139), some (.int (nI i))] [] u sh P I J := by
        (apply F; conv => whnf)
        (apply F; conv => whnf)
        (apply F; conv => whnf)
        (apply F; conv => whnf)
        (apply F; conv => whnf)
        (apply F; conv => whnf)
        refine ⟨v1, ?_⟩
        (apply F; conv => whnf)
        refine ⟨k0, OP_fault h (fun v e1 P1 I1 J1 H => ?_)⟩
        (apply F; conv => whnf)
        (apply F; conv => whnf)
        (apply F; conv => whnf)
        (apply F; conv => whnf)
        (apply F; conv => whnf)
        (apply F; conv => whnf)
        refine ⟨v1, ?_⟩
        (apply F; conv => whnf)
        refine ⟨rfl, H _ (fun sh2 P2 I2 J2 h2 => ?_)⟩
        (apply F; conv => whnf)
        exact ⟨fun _ => fin _ _ _ _ _ (by omega) (by omega) h2, fun q => absurd rfl q⟩
      have c514 : X 514 [some (.retAddr 100), some (.ref 0), some (.ref 139), some (.int (nI i))] [] u sh P I J := by
        (apply F; conv => whnf)
        (apply F; conv => whnf)
        (apply F; conv => whnf)
        (apply F; conv => whnf)
        (apply F; conv => whnf)
        (apply F; conv => whnf)
        refine ⟨v1, ?_⟩
        (apply F; conv => whnf)
        (apply F; conv => whnf)
        (apply F; conv => whnf)
        (apply F; conv => whnf)
        (apply F; conv => whnf)
        refine ⟨v2, ?_⟩
        (apply F; conv => whnf)
        (apply F; conv => whnf)
        (apply F; conv => whnf)
        (apply F; conv => whnf)
        (apply F; conv => whnf)
        refine ⟨v3, ?_⟩
        (apply F; conv => whnf)
        (apply F; conv => whnf)
        (apply F; conv => whnf)
        (apply F; conv => whnf)
        (apply F; conv => whnf)
        refine ⟨v4, ?_⟩
        (apply F; conv => whnf)
        (apply F; conv => whnf)
        (apply F; conv => whnf)
        (apply F; conv => whnf)
        (apply F; conv => whnf)
        refine ⟨v5, ?_⟩
        (apply F; conv => whnf)
        refine ⟨k0, OP_send h (fun v e1 P1 I1 J1 H => ?_)⟩
        (apply F; conv => whnf)
        (apply F; conv => whnf)
        (apply F; conv => whnf)
        (apply F; conv => whnf)
        (apply F; conv => whnf)
        (apply F; conv => whnf)
        refine ⟨v1, ?_⟩
        (apply F; conv => whnf)
        (apply F; conv => whnf)
        (apply F; conv => whnf)
        (apply F; conv => whnf)
        (apply F; conv => whnf)
        refine ⟨v2, ?_⟩
        (apply F; conv => whnf)
        (apply F; conv => whnf)
        (apply F; conv => whnf)
        (apply F; conv => whnf)
        (apply F; conv => whnf)
        refine ⟨v3, ?_⟩
        (apply F; conv => whnf)
        (apply F; conv => whnf)
        (apply F; conv => whnf)
        (apply F; conv => whnf)
        (apply F; conv => whnf)
        refine ⟨v4, ?_⟩
        (apply F; conv => whnf)
        (apply F; conv => whnf)
        (apply F; conv => whnf)
        (apply F; conv => whnf)
        (apply F; conv => whnf)
        refine ⟨v5, ?_⟩
        (apply F; conv => whnf)
        refine ⟨rfl, H _ (fun sh2 P2 I2 J2 h2 => ?_)⟩
        (apply F; conv => whnf)
        exact ⟨fun _ => fin _ _ _ _ _ (by omega) (by omega) h2, fun q => absurd rfl q⟩
      have c577 : X 577 [some (.retAddr 100), some (.ref 0), some (.ref 139), some (.int (nI i))] [] u sh P I J := by
        (apply F; conv => whnf)
        (apply F; conv => whnf)
        refine ⟨k0, OP_day h (fun v e1 P1 I1 J1 H => ?_)⟩
        (apply F; conv => whnf)
        (apply F; conv => whnf)
        refine ⟨rfl, H _ (fun sh2 P2 I2 J2 h2 => ?_)⟩
        (apply F; conv => whnf)
        exact ⟨fun _ => fin _ _ _ _ _ (by omega) (by omega) h2, fun q => absurd rfl q⟩
      have c590 : X 590 [some (.retAddr 100), some (.ref 0), some (.ref 139), some (.int (nI i))] [] u sh P I J := by
        (apply F; conv => whnf)
        (apply F; conv => whnf)
        (apply F; conv => whnf)
        (apply F; conv => whnf)
        (apply F; conv => whnf)
        (apply F; conv => whnf)
        refine ⟨v1, ?_⟩
        (apply F; conv => whnf)
        (apply F; conv => whnf)
        (apply F; conv => whnf)
        (apply F; conv => whnf)
        (apply F; conv => whnf)
        refine ⟨v2, ?_⟩
        (apply F; conv => whnf)
        refine ⟨k0, OP_of h (fun v e1 P1 I1 J1 H => ?_)⟩
        (apply F; conv => whnf)
        (apply F; conv => whnf)
        (apply F; conv => whnf)
        (apply F; conv => whnf)
        (apply F; conv => whnf)
        (apply F; conv => whnf)
        refine ⟨v1, ?_⟩
        (apply F; conv => whnf)
        (apply F; conv => whnf)
        (apply F; conv => whnf)
        (apply F; conv => whnf)
        (apply F; conv => whnf)
        refine ⟨v2, ?_⟩
        (apply F; conv => whnf)
        refine ⟨rfl, H _ (fun sh2 P2 I2 J2 h2 => ?_)⟩
        (apply F; conv => whnf)
        exact ⟨fun _ => fin _ _ _ _ _ (by omega) (by omega) h2, fun q => absurd rfl q⟩
      have c623 : X 623 [some (.retAddr 100), some (.ref 0), some (.ref 139), some (.int (nI i))] [] u sh P I J := by
        (apply F; conv => whnf)
        (apply F; conv => whnf)
        (apply F; conv => whnf)
        (apply F; conv => whnf)
        (apply F; conv => whnf)
        (apply F; conv => whnf)
        refine ⟨v1, ?_⟩
        (apply F; conv => whnf)
        (apply F; conv => whnf)
        (apply F; conv => whnf)
        (apply F; conv => whnf)
        (apply F; conv => whnf)
        refine ⟨v2, ?_⟩
        (apply F; conv => whnf)
        refine ⟨k0, OP_book h (fun v e1 P1 I1 J1 H => ?_)⟩
        (apply F; conv => whnf)
        (apply F; conv => whnf)
        (apply F; conv => whnf)
        (apply F; conv => whnf)
        (apply F; conv => whnf)
        (apply F; conv => whnf)
        refine ⟨v1, ?_⟩
        (apply F; conv => whnf)
        (apply F; conv => whnf)
        (apply F; conv => whnf)
        (apply F; conv => whnf)
        (apply F; conv => whnf)
        refine ⟨v2, ?_⟩
        (apply F; conv => whnf)
        refine ⟨rfl, H _ (fun sh2 P2 I2 J2 h2 => ?_)⟩
        (apply F; conv => whnf)
        exact ⟨fun _ => fin _ _ _ _ _ (by omega) (by omega) h2, fun q => absurd rfl q⟩
      have c656 : X 656 [some (.retAddr 100), some (.ref 0), some (.ref 139), some (.int (nI i))] [] u sh P I J := by
        (apply F; conv => whnf)
        (apply F; conv => whnf)
        refine ⟨k0, OP_creep h (fun v e1 P1 I1 J1 H => ?_)⟩
        (apply F; conv => whnf)
        (apply F; conv => whnf)
        refine ⟨rfl, H _ (fun sh2 P2 I2 J2 h2 => ?_)⟩
        (apply F; conv => whnf)
        (apply F; conv => whnf)
        exact ⟨fun _ => fin _ _ _ _ _ (by omega) (by omega) h2, fun q => absurd ((lg_cmp0 _ _).mpr rfl) q⟩
      have c670 : X 670 [some (.retAddr 100), some (.ref 0), some (.ref 139), some (.int (nI i))] [] u sh P I J := by
        (apply F; conv => whnf)
        (apply F; conv => whnf)
        (apply F; conv => whnf)
        (apply F; conv => whnf)
        (apply F; conv => whnf)
        (apply F; conv => whnf)
        refine ⟨v1, ?_⟩
        (apply F; conv => whnf)
        (apply F; conv => whnf)
        (apply F; conv => whnf)
        (apply F; conv => whnf)
        (apply F; conv => whnf)
        refine ⟨v2, ?_⟩
        (apply F; conv => whnf)
        (apply F; conv => whnf)
        (apply F; conv => whnf)
        (apply F; conv => whnf)
        (apply F; conv => whnf)
        refine ⟨v3, ?_⟩
        (apply F; conv => whnf)
        refine ⟨k0, OP_comes h (fun v e1 P1 I1 J1 H => ?_)⟩
        (apply F; conv => whnf)
        (apply F; conv => whnf)
        (apply F; conv => whnf)
        (apply F; conv => whnf)
        (apply F; conv => whnf)
        (apply F; conv => whnf)
        refine ⟨v1, ?_⟩
        (apply F; conv => whnf)
        (apply F; conv => whnf)
        (apply F; conv => whnf)
        (apply F; conv => whnf)
        (apply F; conv => whnf)
        refine ⟨v2, ?_⟩
        (apply F; conv => whnf)
        (apply F; conv => whnf)
        (apply F; conv => whnf)
        (apply F; conv => whnf)
        (apply F; conv => whnf)
        refine ⟨v3, ?_⟩
        (apply F; conv => whnf)
        refine ⟨rfl, H _ (fun sh2 P2 I2 J2 h2 => ?_)⟩
        (apply F; conv => whnf)
        exact ⟨fun _ => fin _ _ _ _ _ (by omega) (by omega) h2, fun q => absurd rfl q⟩
      have c713 : X 713 [some (.retAddr 100), some (.ref 0), some (.ref 139), some (.int (nI i))] [] u sh P I J := by
        (apply F; conv => whnf)
        (apply F; conv => whnf)
        (apply F; conv => whnf)
        (apply F; conv => whnf)
        (apply F; conv => whnf)
        (apply F; conv => whnf)
        refine ⟨v1, ?_⟩
        (apply F; conv => whnf)
        (apply F; conv => whnf)
        (apply F; conv => whnf)
        (apply F; conv => whnf)
        (apply F; conv => whnf)
        refine ⟨v2, ?_⟩
        (apply F; conv => whnf)
        (apply F; conv => whnf)
        (apply F; conv => whnf)
        (apply F; conv => whnf)
        (apply F; conv => whnf)
        refine ⟨v3, ?_⟩
        (apply F; conv => whnf)
        (apply F; conv => whnf)
        (apply F; conv => whnf)
        (apply F; conv => whnf)
        (apply F; conv => whnf)
        refine ⟨v4, ?_⟩
        (apply F; conv => whnf)
        refine ⟨k0, OP_meant h (fun v e1 P1 I1 J1 H => ?_)⟩
        (apply F; conv => whnf)
        (apply F; conv => whnf)
        (apply F; conv => whnf)
        (apply F; conv => whnf)
        (apply F; conv => whnf)
        (apply F; conv => whnf)
        refine ⟨v1, ?_⟩
        (apply F; conv => whnf)
        (apply F; conv => whnf)
        (apply F; conv => whnf)
        (apply F; conv => whnf)
        (apply F; conv => whnf)
        refine ⟨v2, ?_⟩
        (apply F; conv => whnf)
        (apply F; conv => whnf)
        (apply F; conv => whnf)
        (apply F; conv => whnf)
        (apply F; conv => whnf)
        refine ⟨v3, ?_⟩
        (apply F; conv => whnf)
        (apply F; conv => whnf)
        (apply F; conv => whnf)
        (apply F; conv => whnf)
        (apply F; conv => whnf)
        refine ⟨v4, ?_⟩
        (apply F; conv => whnf)
        refine ⟨rfl, H _ (fun sh2 P2 I2 J2 h2 => ?_)⟩
        (apply F; conv => whnf)
        exact ⟨fun _ => fin _ _ _ _ _ (by omega) (by omega) h2, fun q => absurd rfl q⟩
      have c766 : X 766 [some (.retAddr 100), some (.ref 0), some (.ref 139), some (.int (nI i))] [] u sh P I J := by
        (apply F; conv => whnf)
        (apply F; conv => whnf)
        (apply F; conv => whnf)
        (apply F; conv => whnf)
        (apply F; conv => whnf)
        (apply F; conv => whnf)
        refine ⟨v1, ?_⟩
        (apply F; conv => whnf)
        (apply F; conv => whnf)
        (apply F; conv => whnf)
        (apply F; conv => whnf)
        (apply F; conv => whnf)
        refine ⟨v2, ?_⟩
        (apply F; conv => whnf)
        (apply F; conv => whnf)
        (apply F; conv => whnf)
        (apply F; conv => whnf)
        (apply F; conv => whnf)
        refine ⟨v3, ?_⟩
        (apply F; conv => whnf)
        refine ⟨k0, OP_twin h (fun v e1 P1 I1 J1 H => ?_)⟩
        (apply F; conv => whnf)
        (apply F; conv => whnf)
        (apply F; conv => whnf)
        (apply F; conv => whnf)
        (apply F; conv => whnf)
        (apply F; conv => whnf)
        refine ⟨v1, ?_⟩
        (apply F; conv => whnf)
        (apply F; conv => whnf)
        (apply F; conv => whnf)
        (apply F; conv => whnf)
        (apply F; conv => whnf)
        refine ⟨v2, ?_⟩
        (apply F; conv => whnf)
        (apply F; conv => whnf)
        (apply F; conv => whnf)
        (apply F; conv => whnf)
        (apply F; conv => whnf)
        refine ⟨v3, ?_⟩
        (apply F; conv => whnf)
        refine ⟨rfl, H _ (fun sh2 P2 I2 J2 h2 => ?_)⟩
        (apply F; conv => whnf)
        exact ⟨fun _ => fin _ _ _ _ _ (by omega) (by omega) h2, fun q => absurd rfl q⟩
      have c809 : X 809 [some (.retAddr 100), some (.ref 0), some (.ref 139), some (.int (nI i))] [] u sh P I J := by
        (apply F; conv => whnf)
        (apply F; conv => whnf)
        (apply F; conv => whnf)
        (apply F; conv => whnf)
        (apply F; conv => whnf)
        (apply F; conv => whnf)
        refine ⟨v1, ?_⟩
        (apply F; conv => whnf)
        (apply F; conv => whnf)
        (apply F; conv => whnf)
        (apply F; conv => whnf)
        (apply F; conv => whnf)
        refine ⟨v2, ?_⟩
        (apply F; conv => whnf)
        (apply F; conv => whnf)
        (apply F; conv => whnf)
        (apply F; conv => whnf)
        (apply F; conv => whnf)
        refine ⟨v3, ?_⟩
        (apply F; conv => whnf)
        refine ⟨k0, OP_code h (fun v e1 P1 I1 J1 H => ?_)⟩
        (apply F; conv => whnf)
        (apply F; conv => whnf)
        (apply F; conv => whnf)
        (apply F; conv => whnf)
        (apply F; conv => whnf)
        (apply F; conv => whnf)
        refine ⟨v1, ?_⟩
        (apply F; conv => whnf)
        (apply F; conv => whnf)
        (apply F; conv => whnf)
        (apply F; conv => whnf)
        (apply F; conv => whnf)
        refine ⟨v2, ?_⟩
        (apply F; conv => whnf)
        (apply F; conv => whnf)
        (apply F; conv => whnf)
        (apply F; conv => whnf)
        (apply F; conv => whnf)
        refine ⟨v3, ?_⟩
        (apply F; conv => whnf)
        refine ⟨rfl, H _ (fun sh2 P2 I2 J2 h2 => ?_)⟩
        (apply F; conv => whnf)
        exact ⟨fun _ => fin _ _ _ _ _ (by omega) (by omega) h2, fun q => absurd rfl q⟩
      have c852 : X 852 [some (.retAddr 100), some (.ref 0), some (.ref 139), some (.int (nI i))] [] u sh P I J := by
        (apply F; conv => whnf)
        (apply F; conv => whnf)
        (apply F; conv => whnf)
        (apply F; conv => whnf)
        (apply F; conv => whnf)
        (apply F; conv => whnf)
        refine ⟨v1, ?_⟩
        (apply F; conv => whnf)
        (apply F; conv => whnf)
        (apply F; conv => whnf)
        (apply F; conv => whnf)
        (apply F; conv => whnf)
        refine ⟨v2, ?_⟩
        (apply F; conv => whnf)
        (apply F; conv => whnf)
        (apply F; conv => whnf)
        (apply F; conv => whnf)
        (apply F; conv => whnf)
        refine ⟨v3, ?_⟩
        (apply F; conv => whnf)
        refine ⟨k0, OP_best h (fun v e1 P1 I1 J1 H => ?_)⟩
        (apply F; conv => whnf)
        (apply F; conv => whnf)
        (apply F; conv => whnf)
        (apply F; conv => whnf)
        (apply F; conv => whnf)
        (apply F; conv => whnf)
        refine ⟨v1, ?_⟩
        (apply F; conv => whnf)
        (apply F; conv => whnf)
        (apply F; conv => whnf)
        (apply F; conv => whnf)
        (apply F; conv => whnf)
        refine ⟨v2, ?_⟩
        (apply F; conv => whnf)
        (apply F; conv => whnf)
        (apply F; conv => whnf)
        (apply F; conv => whnf)
        (apply F; conv => whnf)
        refine ⟨v3, ?_⟩
        (apply F; conv => whnf)
        refine ⟨rfl, H _ (fun sh2 P2 I2 J2 h2 => ?_)⟩
        (apply F; conv => whnf)
        exact ⟨fun _ => fin _ _ _ _ _ (by omega) (by omega) h2, fun q => absurd rfl q⟩
      have c895 : X 895 [some (.retAddr 100), some (.ref 0), some (.ref 139), some (.int (nI i))] [] u sh P I J := by
        (apply F; conv => whnf)
        (apply F; conv => whnf)
        refine ⟨k0, OP_clerks h (fun v e1 P1 I1 J1 H => ?_)⟩
        (apply F; conv => whnf)
        (apply F; conv => whnf)
        refine ⟨rfl, H _ (fun sh2 P2 I2 J2 h2 => ?_)⟩
        (apply F; conv => whnf)
        exact ⟨fun _ => fin _ _ _ _ _ (by omega) (by omega) h2, fun q => absurd rfl q⟩
      have c908 : X 908 [some (.retAddr 100), some (.ref 0), some (.ref 139), some (.int (nI i))] [] u sh P I J := by
        (apply F; conv => whnf)
        (apply F; conv => whnf)
        (apply F; conv => whnf)
        (apply F; conv => whnf)
        (apply F; conv => whnf)
        (apply F; conv => whnf)
        refine ⟨v1, ?_⟩
        (apply F; conv => whnf)
        refine ⟨k0, OP_look h (fun v e1 P1 I1 J1 H => ?_)⟩
        (apply F; conv => whnf)
        (apply F; conv => whnf)
        (apply F; conv => whnf)
        (apply F; conv => whnf)
        (apply F; conv => whnf)
        (apply F; conv => whnf)
        refine ⟨v1, ?_⟩
        (apply F; conv => whnf)
        refine ⟨rfl, H _ (fun sh2 P2 I2 J2 h2 => ?_)⟩
        (apply F; conv => whnf)
        exact ⟨fun _ => fin _ _ _ _ _ (by omega) (by omega) h2, fun q => absurd rfl q⟩
      have c931 : X 931 [some (.retAddr 100), some (.ref 0), some (.ref 139), some (.int (nI i))] [] u sh P I J := by
        (apply F; conv => whnf)
        (apply F; conv => whnf)
        (apply F; conv => whnf)
        (apply F; conv => whnf)
        (apply F; conv => whnf)
        (apply F; conv => whnf)
        refine ⟨v1, ?_⟩
        (apply F; conv => whnf)
        (apply F; conv => whnf)
        (apply F; conv => whnf)
        (apply F; conv => whnf)
        (apply F; conv => whnf)
        refine ⟨v2, ?_⟩
        (apply F; conv => whnf)
        refine ⟨k0, OP_cure h (fun v e1 P1 I1 J1 H => ?_)⟩
        (apply F; conv => whnf)
        (apply F; conv => whnf)
        (apply F; conv => whnf)
        (apply F; conv => whnf)
        (apply F; conv => whnf)
        (apply F; conv => whnf)
        refine ⟨v1, ?_⟩
        (apply F; conv => whnf)
        (apply F; conv => whnf)
        (apply F; conv => whnf)
        (apply F; conv => whnf)
        (apply F; conv => whnf)
        refine ⟨v2, ?_⟩
        (apply F; conv => whnf)
        refine ⟨rfl, H _ (fun sh2 P2 I2 J2 h2 => ?_)⟩
        (apply F; conv => whnf)
        exact ⟨fun _ => fin _ _ _ _ _ (by omega) (by omega) h2, fun q => absurd rfl q⟩
      have c964 : X 964 [some (.retAddr 100), some (.ref 0), some (.ref 139), some (.int (nI i))] [] u sh P I J := by
        (apply F; conv => whnf)
        (apply F; conv => whnf)
        refine ⟨k0, OP_undo h (fun v e1 P1 I1 J1 H => ?_)⟩
        (apply F; conv => whnf)
        (apply F; conv => whnf)
        refine ⟨rfl, H _ (fun sh2 P2 I2 J2 h2 => ?_)⟩
        (apply F; conv => whnf)
        exact ⟨fun _ => fin _ _ _ _ _ (by omega) (by omega) h2, fun q => absurd rfl q⟩
      have c977 : X 977 [some (.retAddr 100), some (.ref 0), some (.ref 139), some (.int (nI i))] [] u sh P I J := by
        (apply F; conv => whnf)
        (apply F; conv => whnf)
        (apply F; conv => whnf)
        (apply F; conv => whnf)
        (apply F; conv => whnf)
        (apply F; conv => whnf)
        refine ⟨v1, ?_⟩
        (apply F; conv => whnf)
        refine ⟨fun q => ?_, fun q => ?_⟩
        · (apply F; conv => whnf)
          (apply F; conv => whnf)
          obtain ⟨al, ⟨b1, b2⟩, hal⟩ := OP_image 0 h
          refine ⟨k0, al, ⟨by show u.1 + al.1 ≤ 600000; omega, by show u.2 + al.2 ≤ 7302250; omega⟩, hal _ (fun v e1 P1 I1 J1 H => ?_)⟩
          (apply F; conv => whnf)
          (apply F; conv => whnf)
          (apply F; conv => whnf)
          (apply F; conv => whnf)
          (apply F; conv => whnf)
          (apply F; conv => whnf)
          refine ⟨v1, ?_⟩
          (apply F; conv => whnf)
          refine ⟨fun _ => ?_, fun q2 => absurd q q2⟩
          (apply F; conv => whnf)
          (apply F; conv => whnf)
          refine ⟨rfl, H _ (fun sh2 P2 I2 J2 h2 => ?_)⟩
          (apply F; conv => whnf)
          exact ⟨fun _ => fin _ _ _ _ _ (by show 7 * (u.1 + al.1) ≤ _; omega) (by show 7 * (u.2 + al.2) ≤ _; omega) h2, fun q => absurd rfl q⟩
        · (apply F; conv => whnf)
          (apply F; conv => whnf)
          (apply F; conv => whnf)
          obtain ⟨al, ⟨b1, b2⟩, hal⟩ := OP_image 1 h
          refine ⟨k0, al, ⟨by show u.1 + al.1 ≤ 600000; omega, by show u.2 + al.2 ≤ 7302250; omega⟩, hal _ (fun v e1 P1 I1 J1 H => ?_)⟩
          (apply F; conv => whnf)
          (apply F; conv => whnf)
          (apply F; conv => whnf)
          (apply F; conv => whnf)
          (apply F; conv => whnf)
          (apply F; conv => whnf)
          refine ⟨v1, ?_⟩
          (apply F; conv => whnf)
          refine ⟨fun q2 => absurd q2 q, fun _ => ?_⟩
          (apply F; conv => whnf)
          (apply F; conv => whnf)
          (apply F; conv => whnf)
          refine ⟨rfl, H _ (fun sh2 P2 I2 J2 h2 => ?_)⟩
          (apply F; conv => whnf)
          exact ⟨fun _ => fin _ _ _ _ _ (by show 7 * (u.1 + al.1) ≤ _; omega) (by show 7 * (u.2 + al.2) ≤ _; omega) h2, fun q => absurd rfl q⟩
      have c1016 : X 1016 [some (.retAddr 100), some (.ref 0), some (.ref 139), some (.int (nI i))] [] u sh P I J := by
        (apply F; conv => whnf)
        (apply F; conv => whnf)
        (apply F; conv => whnf)
        (apply F; conv => whnf)
        (apply F; conv => whnf)
        (apply F; conv => whnf)
        refine ⟨v1, ?_⟩
        (apply F; conv => whnf)
        refine ⟨k0, OP_tells h (fun v e1 P1 I1 J1 H => ?_)⟩
        (apply F; conv => whnf)
        (apply F; conv => whnf)
        (apply F; conv => whnf)
        (apply F; conv => whnf)
        (apply F; conv => whnf)
        (apply F; conv => whnf)
        refine ⟨v1, ?_⟩
        (apply F; conv => whnf)
        refine ⟨rfl, H _ (fun sh2 P2 I2 J2 h2 => ?_)⟩
        (apply F; conv => whnf)
        exact ⟨fun _ => fin _ _ _ _ _ (by omega) (by omega) h2, fun q => absurd rfl q⟩
      (apply F; conv => whnf)
      (apply F; conv => whnf)
      (apply F; conv => whnf)
      refine ⟨v0, ?_⟩
      (apply F; conv => whnf)
      (apply F; conv => whnf)
      (apply F; conv => whnf)
      exact ⟨fun _ => c152, fun _ => ⟨fun _ => c175, fun _ => ⟨fun _ => c250, fun _ => ⟨fun _ => c293, fun _ => ⟨fun _ => c326, fun _ => ⟨fun _ => c349, fun _ => ⟨fun _ => c382, fun _ => ⟨fun _ => c445, fun _ => ⟨fun _ => c468, fun _ => ⟨fun _ => c491, fun _ => ⟨fun _ => c514, fun _ => ⟨fun _ => c577, fun _ => ⟨fun _ => c590, fun _ => ⟨fun _ => c623, fun _ => ⟨fun _ => c656, fun _ => ⟨fun _ => c670, fun _ => ⟨fun _ => c713, fun _ => ⟨fun _ => c766, fun _ => ⟨fun _ => c809, fun _ => ⟨fun _ => c852, fun _ => ⟨fun _ => c895, fun _ => ⟨fun _ => c908, fun _ => ⟨fun _ => c931, fun _ => ⟨fun _ => c964, fun _ => ⟨fun _ => c977, fun _ => ⟨fun _ => c1016, fun _ => fin _ _ _ _ _ (by omega) (by omega) h⟩⟩⟩⟩⟩⟩⟩⟩⟩⟩⟩⟩⟩⟩⟩⟩⟩⟩⟩⟩⟩⟩⟩⟩⟩⟩
  (apply F; conv => whnf)
  refine ⟨⟨by decide, by decide⟩, ?_⟩
  (apply F; conv => whnf)
  (apply F; conv => whnf)
  refine ⟨⟨by decide, by decide⟩, ?_⟩
  refine K_LS (d := 397) (fun P1 I1 J1 a1 a2 a3 a4 a5 a6 a7 a8 => ?_)
  (apply F; conv => whnf)
  (apply F; conv => whnf)
  rw [tkL (show 139 ≤ 159 by decide), tq_139]
  refine ⟨⟨by decide, by decide⟩, ?_⟩
  (apply F; conv => whnf)
  (apply F; conv => whnf)
  refine ⟨⟨by decide, by decide⟩, ?_⟩
  refine K_Mo (d := 398) (fun j => by rw [mj_w_eq]) (fun j => by rw [mj_w_eq]) (fun j => by rw [mj_w_eq]) (fun P2 I2 J2 b1 b2 b3 b4 b5 b6 => ?_)
  (apply F; conv => whnf)
  (apply F; conv => whnf)
  (apply F; conv => whnf)
  exact lp n 0 _ _ _ _ _ (by omega) (by omega) (by decide) (by decide) (Inv_0 a1 a2 a3 a4 a5 a6 a7 a8 b1 b2 b3 b4 b5 b6)
