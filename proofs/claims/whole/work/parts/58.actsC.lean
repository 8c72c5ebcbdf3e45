/-! PURE: the class's acts -/
def abN (v : Nat) : Nat := if v = 5 then 2 else 0
def boN (v a : Nat) : Nat := (([10, 11, 12, 0, 20, 0, 30, 0, 31, 40, 0, 0, 0, 0, 50, 60, 61, 0, 0, 0, 70] : List Nat)).getD (3 * v + a) 0
/-- the KIND whose body it is -/
def atF : Nat → Nat → Nat → Nat
  | 0, v, _ => v
  | f + 1, v, a => if boN v a = 0 then atF f (abN v) a else v
theorem tb_ok : ∀ v, v < 7 → ∀ a, a < 3 → tBo (3 * v + a) = nI (boN v a) ∧ boN v a < 100 ∧ (boN v a = 0 → tAb v = nI (abN v)) ∧ abN v < 7 := by decide +kernel
theorem at_ok : ∀ v, v < 7 → ∀ a, a < 3 → atF 7 v a < 7 ∧ ¬ boN (atF 7 v a) a = 0 := by decide +kernel
theorem k3 {r c : Nat} : ((3 : Int32) * nI r) + nI c = nI (3 * r + c) := by
  rw [← nI_add]; congr 1; exact (Int32.ofNat_mul 3 r).symm
section AD
variable {d nc : Nat} {n m : Int32} {σ : St} {L : List Int32}
theorem hAc (hn : nc < 5) : IO (idsC nc) 110 0 := hB hn (by decide) rfl
theorem c_isKind {ids : List Nat} {v : Int32} {Q : Int32 → St → Prop} (h0 : ¬ isCs 7 v → Q 0 σ) (h1 : isCs 7 v → Q 1 σ) : EI (d + 1) ids Y_X0_isKind [.int v] σ Q := by
  refine fl_X0_isKind ⟨fun z => h0 ?_, fun z => ⟨fun z2 => h0 ?_, fun z2 => h1 ?_⟩⟩
  · rintro ⟨k, hk, rfl⟩
    exact nI_pos (by omega) z
  · rintro ⟨k, hk, rfl⟩
    have := (nI_leI (a := 7) (by decide) (by omega)).mp z2
    omega
  · obtain ⟨k, hk, rfl⟩ := nI_of z
    refine ⟨k, ?_, rfl⟩
    have : ¬ 7 ≤ k := fun y => z2 (nI_le (a := 7) y hk)
    omega
theorem c_note {b : Int32} {Q : St → Prop} (hn : nc < 5) (hL : L.length ≤ 200) (hT : TRC n m σ L) (h : ∀ σ', TRC n m σ' (L ++ [b]) → fr11 σ σ' → Q σ') : EV (d + 1) (idsC nc) Y_X0_note [.ref 110, .int b] σ Q := by
  obtain ⟨t1, t2, t3, t4⟩ := hT
  refine fl_X0_note (hAc hn) (fun P19 H19 => ?_)
  rw [t1]
  refine ⟨fun z => H19 _ (fun s1 e1 => ?_), fun z => ⟨?_, fun s4 e4 => H19 _ (fun s1 e1 => ?_)⟩⟩
  · have hl := (nI_leI (a := 20) (by decide) (by omega)).mp z
    rw [t1, nI_1] at e1
    refine h s1 ⟨by rw [e1, gi_same, ap1], ap_at t2 (fun i hi => by rw [e1, gi_ne_o _ _ _ _ (by decide)]) (fun y => by omega), by rw [e1, gi_ne_k _ _ _ _ (by decide)]; exact t3, by rw [e1, gi_ne_k _ _ _ _ (by decide)]; exact t4⟩ ⟨fun x k a1 a2 => by rw [e1, gi_ne_o _ _ _ _ a1], fun x => by rw [e1, gl_si_o]⟩
  · have : ¬ 20 ≤ L.length := fun y => z (nI_le (a := 20) y (by omega))
    exact vp_in_nI (by omega) (by decide)
  · rw [cl_ix _ (by omega), show rf 110 1 = 121 from rfl] at e4
    have g45 : gi s4 110 0 = nI L.length := by rw [e4, gi_ne_o _ _ _ _ (by decide)]; exact t1
    rw [g45, nI_1] at e1
    refine h s1 ⟨by rw [e1, gi_same, ap1], ap_at t2 (fun i hi => by rw [e1, gi_ne_o _ _ _ _ (by decide), e4, gi_ne_k _ _ _ _ hi]) (fun y => by rw [e1, gi_ne_o _ _ _ _ (by decide), e4, gi_same]), by rw [e1, gi_ne_k _ _ _ _ (by decide), e4, gi_ne_o _ _ _ _ (by decide)]; exact t3, by rw [e1, gi_ne_k _ _ _ _ (by decide), e4, gi_ne_o _ _ _ _ (by decide)]; exact t4⟩ ⟨fun x k a1 a2 => by rw [e1, gi_ne_o _ _ _ _ a1, e4, gi_ne_o _ _ _ _ a2], fun x => by rw [e1, gl_si_o, e4, gl_si_o]⟩
theorem c_run {k v a dep : Nat} {x : Int32} {Q : Int32 → St → Prop} (hn : nc < 5) (hv : v < 7) (ha : a < 3) (hdep : dep ≤ 40) (hL : L.length ≤ 200) (hT : TRC n m σ L)
    (K : ∀ s19, TRC n m s19 (L ++ [nI (boN (atF 7 v a) a)]) → fr11 σ s19 → (((nI (boN (atF 7 v a) a)) = 10 → Q (x + (gi s19 110 2)) s19) ∧ ((nI (boN (atF 7 v a) a)) = 11 → EI (d + 2) (idsC nc) Y_X0_run [.ref 110, .int (nI k), .int (nI k), .int 0, .int x, .int (nI (dep + 1))] s19 (fun x22 s21 => Q (x22 - (gi s21 110 3)) s21)) ∧ ((nI (boN (atF 7 v a) a)) = 12 → EI (d + 2) (idsC nc) Y_X0_run [.ref 110, .int (nI k), .int (nI k), .int 1, .int x, .int (nI (dep + 1))] s19 (fun x24 s23 => Q (x24 * 2) s23)) ∧ ((nI (boN (atF 7 v a) a)) = 20 → EI (d + 2) (idsC nc) Y_X0_run [.ref 110, .int (nI k), .int (tAb (atF 7 v a)), .int 1, .int x, .int (nI (dep + 1))] s19 (fun x26 s25 => Q (x26 ^^^ 5) s25)) ∧ ((nI (boN (atF 7 v a) a)) = 30 → EI (d + 2) (idsC nc) Y_X0_run [.ref 110, .int (nI k), .int (tAb (atF 7 v a)), .int 0, .int (x * 3), .int (nI (dep + 1))] s19 (fun x28 s27 => Q x28 s27)) ∧ ((nI (boN (atF 7 v a) a)) = 31 → EI (d + 2) (idsC nc) Y_X0_run [.ref 110, .int (nI k), .int (tAb (atF 7 v a)), .int 2, .int x, .int (nI (dep + 1))] s19 (fun x30 s29 => EI (d + 2) (idsC nc) Y_X0_run [.ref 110, .int (nI k), .int (nI k), .int 1, .int 1, .int (nI (dep + 1))] s29 (fun x32 s31 => Q (x30 + x32) s31))) ∧ ((nI (boN (atF 7 v a) a)) = 40 → EI (d + 2) (idsC nc) Y_X0_run [.ref 110, .int (nI k), .int (tAb (atF 7 v a)), .int 0, .int x, .int (nI (dep + 1))] s19 (fun x34 s33 => Q (-x34) s33)) ∧ ((nI (boN (atF 7 v a) a)) = 50 → EI (d + 2) (idsC nc) Y_X0_run [.ref 110, .int (nI k), .int (tAb (atF 7 v a)), .int 2, .int (x - (gi s19 110 2)), .int (nI (dep + 1))] s19 (fun x36 s35 => Q x36 s35)) ∧ ((nI (boN (atF 7 v a) a)) = 60 → EI (d + 2) (idsC nc) Y_X0_run [.ref 110, .int (nI k), .int (tAb (atF 7 v a)), .int 0, .int x, .int (nI (dep + 1))] s19 (fun x38 s37 => Q (x38 ^^^ (gi s37 110 3)) s37)) ∧ ((nI (boN (atF 7 v a) a)) = 61 → EI (d + 2) (idsC nc) Y_X0_run [.ref 110, .int (nI k), .int (tAb (atF 7 v a)), .int 1, .int x, .int (nI (dep + 1))] s19 (fun x40 s39 => EI (d + 2) (idsC nc) Y_X0_run [.ref 110, .int (nI k), .int (tAb (atF 7 v a)), .int 0, .int 2, .int (nI (dep + 1))] s39 (fun x42 s41 => Q (x40 + x42) s41))) ∧ ((nI (boN (atF 7 v a) a)) = 70 → EI (d + 2) (idsC nc) Y_X0_run [.ref 110, .int (nI k), .int (nI k), .int 1, .int x, .int (nI (dep + 1))] s19 (fun x44 s43 => EI (d + 2) (idsC nc) Y_X0_run [.ref 110, .int (nI k), .int (tAb (atF 7 v a)), .int 2, .int x, .int (nI (dep + 1))] s43 (fun x46 s45 => Q (x44 - x46) s45))) ∧ (¬ (nI (boN (atF 7 v a) a)) = 10 → ¬ (nI (boN (atF 7 v a) a)) = 11 → ¬ (nI (boN (atF 7 v a) a)) = 12 → ¬ (nI (boN (atF 7 v a) a)) = 20 → ¬ (nI (boN (atF 7 v a) a)) = 30 → ¬ (nI (boN (atF 7 v a) a)) = 31 → ¬ (nI (boN (atF 7 v a) a)) = 40 → ¬ (nI (boN (atF 7 v a) a)) = 50 → ¬ (nI (boN (atF 7 v a) a)) = 60 → ¬ (nI (boN (atF 7 v a) a)) = 61 → ¬ (nI (boN (atF 7 v a) a)) = 70 → Q 0 s19))) :
    EI (d + 3) (idsC nc) Y_X0_run [.ref 110, .int (nI k), .int (nI v), .int (nI a), .int x, .int (nI dep)] σ Q := by
  refine fl_X0_run (hAc hn) (fun P7 P47 H7 H47 => ?_)
  obtain ⟨ha1, ha2⟩ := at_ok v hv a ha
  have fin : P47 (nI (atF 7 v a)) σ := by
    generalize atF 7 v a = w at ha1 ha2 K
    obtain ⟨b1, b2, b3, b4⟩ := tb_ok w ha1 a ha
    refine H47 _ _ (c_isKind (fun z => absurd ⟨w, ha1, rfl⟩ z) (fun _ => ⟨fun y => absurd y (by decide), fun _ => ⟨fun _ => ?_, fun y => absurd (nI_le (b := 40) hdep (by decide)) y⟩⟩))
    rw [k3, cl_ix _ (by omega), cl_ix w (by omega), b1]
    refine ⟨vp_in_nI (by omega) (by decide), fun x15 e15 => ⟨vp_in_nI ha1 (by decide), fun x17 e17 x18 e18 => ?_⟩⟩
    rw [nI_1] at e18
    subst e15 e17 e18
    exact c_note hn hL hT (fun s19 t1 f1 => K s19 t1 f1)
  have loop : ∀ f u, f < 100 → u < 7 → (atF f u a = atF 7 v a) → P7 (nI u) (nI f) σ := by
    intro f
    induction f with
    | zero =>
      intro u _ hu e
      have e : u = atF 7 v a := e
      rw [← e] at fin
      exact H7 _ _ _ ⟨fun _ => fin, fun y => absurd (by decide) y⟩
    | succ f ih =>
      intro u hf hu e
      obtain ⟨b1, b2, b3, b4⟩ := tb_ok u hu a ha
      refine H7 _ _ _ ⟨fun y => absurd y (nI_nle (by omega) (by omega)), fun _ => c_isKind (fun z => absurd ⟨u, hu, rfl⟩ z) (fun _ => ⟨fun y => absurd y (by decide), fun _ => ?_⟩)⟩
      · rw [k3, cl_ix _ (by omega), cl_ix u (by omega), b1]
        refine ⟨vp_in_nI (by omega) (by decide), fun z => ?_, fun z => ⟨vp_in_nI hu (by decide), fun x8 e8 x9 e9 => ?_⟩⟩
        · unfold atF at e
          rw [if_neg (fun y => z (by rw [y]; rfl))] at e
          rw [e]; exact fin
        · have z0 : boN u a = 0 := (nI_eq (b := 0) (by omega) (by decide)).mp z
          unfold atF at e
          rw [if_pos z0] at e
          rw [e8, b3 z0, e9, m1n (f + 1) (by omega)]
          exact ih (abN u) (by omega) b4 e
  exact loop 7 v (by decide) hv rfl

theorem c_10 {k v dep : Nat} {x : Int32} {Q : Int32 → St → Prop} (hn : nc < 5) (hk : k < 7) (hv : v < 7) (hat : atF 7 v 0 = 0) (hdep : dep ≤ 40) (hL : L.length ≤ 199) (hT : TRC n m σ L)
    (h : ∀ σ', TRC n m σ' (L ++ (mPP n x).2) → fr11 σ σ' → Q (mPP n x).1 σ') : EI (d + 3) (idsC nc) Y_X0_run [.ref 110, .int (nI k), .int (nI v), .int (nI 0), .int x, .int (nI dep)] σ Q := by
  refine c_run hn hv (a := 0) (by decide) (by omega) (by omega) hT (fun s19 t1 f1 => ?_)
  rw [hat] at t1 ⊢
  have up : tAb 0 = nI (abN 0) ∨ 0 = 0 := by decide +kernel
  have t1 : TRC n m s19 (L ++ [nI 10]) := t1
  have e16 : ∀ M, (L ++ [nI 10]) ++ M = L ++ (nI 10 :: M) := fun M => by rw [List.append_assoc]; rfl
  refine ⟨fun _ => (by rw [t1.2.2.1]; exact h s19 t1 f1), fun y => absurd y (by decide), fun y => absurd y (by decide), fun y => absurd y (by decide), fun y => absurd y (by decide), fun y => absurd y (by decide), fun y => absurd y (by decide), fun y => absurd y (by decide), fun y => absurd y (by decide), fun y => absurd y (by decide), fun y => absurd y (by decide), fun y _ _ _ _ _ _ _ _ _ _ => absurd rfl y⟩
theorem c_30 {k v dep : Nat} {x : Int32} {Q : Int32 → St → Prop} (hn : nc < 5) (hk : k < 7) (hv : v < 7) (hat : atF 7 v 0 = 2) (hdep : dep ≤ 39) (hL : L.length ≤ 198) (hT : TRC n m σ L)
    (h : ∀ σ', TRC n m σ' (L ++ (mEP n x).2) → fr11 σ σ' → Q (mEP n x).1 σ') : EI (d + 4) (idsC nc) Y_X0_run [.ref 110, .int (nI k), .int (nI v), .int (nI 0), .int x, .int (nI dep)] σ Q := by
  refine c_run hn hv (a := 0) (by decide) (by omega) (by omega) hT (fun s19 t1 f1 => ?_)
  rw [hat] at t1 ⊢
  have up : tAb 2 = nI (abN 2) ∨ 2 = 0 := by decide +kernel
  have t1 : TRC n m s19 (L ++ [nI 30]) := t1
  have e16 : ∀ M, (L ++ [nI 30]) ++ M = L ++ (nI 30 :: M) := fun M => by rw [List.append_assoc]; rfl
  refine ⟨fun y => absurd y (by decide), fun y => absurd y (by decide), fun y => absurd y (by decide), fun y => absurd y (by decide), fun _ => c_10 hn hk (v := 0) (by decide) rfl (by omega) (by rw [ap1]; omega) t1 (fun s2 t2 f2 => h s2 (by rw [e16] at t2; exact t2) (f1.tr f2)), fun y => absurd y (by decide), fun y => absurd y (by decide), fun y => absurd y (by decide), fun y => absurd y (by decide), fun y => absurd y (by decide), fun y => absurd y (by decide), fun _ _ _ _ y _ _ _ _ _ _ => absurd rfl y⟩
theorem c_40 {k v dep : Nat} {x : Int32} {Q : Int32 → St → Prop} (hn : nc < 5) (hk : k < 7) (hv : v < 7) (hat : atF 7 v 0 = 3) (hdep : dep ≤ 39) (hL : L.length ≤ 198) (hT : TRC n m σ L)
    (h : ∀ σ', TRC n m σ' (L ++ (((-(mPP n x).1, 40 :: (mPP n x).2) : AR)).2) → fr11 σ σ' → Q (((-(mPP n x).1, 40 :: (mPP n x).2) : AR)).1 σ') : EI (d + 4) (idsC nc) Y_X0_run [.ref 110, .int (nI k), .int (nI v), .int (nI 0), .int x, .int (nI dep)] σ Q := by
  refine c_run hn hv (a := 0) (by decide) (by omega) (by omega) hT (fun s19 t1 f1 => ?_)
  rw [hat] at t1 ⊢
  have up : tAb 3 = nI (abN 3) ∨ 3 = 0 := by decide +kernel
  have t1 : TRC n m s19 (L ++ [nI 40]) := t1
  have e16 : ∀ M, (L ++ [nI 40]) ++ M = L ++ (nI 40 :: M) := fun M => by rw [List.append_assoc]; rfl
  refine ⟨fun y => absurd y (by decide), fun y => absurd y (by decide), fun y => absurd y (by decide), fun y => absurd y (by decide), fun y => absurd y (by decide), fun y => absurd y (by decide), fun _ => c_10 hn hk (v := 0) (by decide) rfl (by omega) (by rw [ap1]; omega) t1 (fun s2 t2 f2 => h s2 (by rw [e16] at t2; exact t2) (f1.tr f2)), fun y => absurd y (by decide), fun y => absurd y (by decide), fun y => absurd y (by decide), fun y => absurd y (by decide), fun _ _ _ _ _ _ y _ _ _ _ => absurd rfl y⟩
theorem c_60 {k v dep : Nat} {x : Int32} {Q : Int32 → St → Prop} (hn : nc < 5) (hk : k < 7) (hv : v < 7) (hat : atF 7 v 0 = 5) (hdep : dep ≤ 38) (hL : L.length ≤ 197) (hT : TRC n m σ L)
    (h : ∀ σ', TRC n m σ' (L ++ ((((mEP n x).1 ^^^ m, 60 :: (mEP n x).2) : AR)).2) → fr11 σ σ' → Q ((((mEP n x).1 ^^^ m, 60 :: (mEP n x).2) : AR)).1 σ') : EI (d + 5) (idsC nc) Y_X0_run [.ref 110, .int (nI k), .int (nI v), .int (nI 0), .int x, .int (nI dep)] σ Q := by
  refine c_run hn hv (a := 0) (by decide) (by omega) (by omega) hT (fun s19 t1 f1 => ?_)
  rw [hat] at t1 ⊢
  have up : tAb 5 = nI (abN 5) ∨ 5 = 0 := by decide +kernel
  have t1 : TRC n m s19 (L ++ [nI 60]) := t1
  have e16 : ∀ M, (L ++ [nI 60]) ++ M = L ++ (nI 60 :: M) := fun M => by rw [List.append_assoc]; rfl
  refine ⟨fun y => absurd y (by decide), fun y => absurd y (by decide), fun y => absurd y (by decide), fun y => absurd y (by decide), fun y => absurd y (by decide), fun y => absurd y (by decide), fun y => absurd y (by decide), fun y => absurd y (by decide), fun _ => c_30 hn hk (v := 2) (by decide) rfl (by omega) (by rw [ap1]; omega) t1 (fun s2 t2 f2 => by rw [t2.2.2.2]; exact h s2 (by rw [e16] at t2; exact t2) (f1.tr f2)), fun y => absurd y (by decide), fun y => absurd y (by decide), fun _ _ _ _ _ _ _ _ y _ _ => absurd rfl y⟩
theorem c_P {k dep : Nat} {x : Int32} {Q : Int32 → St → Prop} (hn : nc < 5) (hk : k < 7) (hdep : dep ≤ 38) (hL : L.length ≤ 197) (hT : TRC n m σ L)
    (h : ∀ σ', TRC n m σ' (L ++ (mP n m k x).2) → fr11 σ σ' → Q (mP n m k x).1 σ') : EI (d + 5) (idsC nc) Y_X0_run [.ref 110, .int (nI k), .int (nI k), .int (nI 0), .int x, .int (nI dep)] σ Q := by
  rcases (by omega : k = 0 ∨ k = 1 ∨ k = 2 ∨ k = 3 ∨ k = 4 ∨ k = 5 ∨ k = 6) with rfl | rfl | rfl | rfl | rfl | rfl | rfl
  · exact c_10 hn hk hk rfl (by omega) (by omega) hT h
  · exact c_10 hn hk hk rfl (by omega) (by omega) hT h
  · exact c_30 hn hk hk rfl (by omega) (by omega) hT h
  · exact c_40 hn hk hk rfl (by omega) (by omega) hT h
  · exact c_10 hn hk hk rfl (by omega) (by omega) hT h
  · exact c_60 hn hk hk rfl (by omega) (by omega) hT h
  · exact c_10 hn hk hk rfl (by omega) (by omega) hT h
theorem c_11 {k v dep : Nat} {x : Int32} {Q : Int32 → St → Prop} (hn : nc < 5) (hk : k < 7) (hv : v < 7) (hat : atF 7 v 1 = 0) (hdep : dep ≤ 37) (hL : L.length ≤ 196) (hT : TRC n m σ L)
    (h : ∀ σ', TRC n m σ' (L ++ (mPA n m k x).2) → fr11 σ σ' → Q (mPA n m k x).1 σ') : EI (d + 6) (idsC nc) Y_X0_run [.ref 110, .int (nI k), .int (nI v), .int (nI 1), .int x, .int (nI dep)] σ Q := by
  refine c_run hn hv (a := 1) (by decide) (by omega) (by omega) hT (fun s19 t1 f1 => ?_)
  rw [hat] at t1 ⊢
  have up : tAb 0 = nI (abN 0) ∨ 0 = 0 := by decide +kernel
  have t1 : TRC n m s19 (L ++ [nI 11]) := t1
  have e16 : ∀ M, (L ++ [nI 11]) ++ M = L ++ (nI 11 :: M) := fun M => by rw [List.append_assoc]; rfl
  refine ⟨fun y => absurd y (by decide), fun _ => c_P hn hk (by omega) (by rw [ap1]; omega) t1 (fun s2 t2 f2 => by rw [t2.2.2.2]; exact h s2 (by rw [e16] at t2; exact t2) (f1.tr f2)), fun y => absurd y (by decide), fun y => absurd y (by decide), fun y => absurd y (by decide), fun y => absurd y (by decide), fun y => absurd y (by decide), fun y => absurd y (by decide), fun y => absurd y (by decide), fun y => absurd y (by decide), fun y => absurd y (by decide), fun _ y _ _ _ _ _ _ _ _ _ => absurd rfl y⟩
theorem c_20 {k v dep : Nat} {x : Int32} {Q : Int32 → St → Prop} (hn : nc < 5) (hk : k < 7) (hv : v < 7) (hat : atF 7 v 1 = 1) (hdep : dep ≤ 36) (hL : L.length ≤ 195) (hT : TRC n m σ L)
    (h : ∀ σ', TRC n m σ' (L ++ ((((mPA n m k x).1 ^^^ 5, 20 :: (mPA n m k x).2) : AR)).2) → fr11 σ σ' → Q ((((mPA n m k x).1 ^^^ 5, 20 :: (mPA n m k x).2) : AR)).1 σ') : EI (d + 7) (idsC nc) Y_X0_run [.ref 110, .int (nI k), .int (nI v), .int (nI 1), .int x, .int (nI dep)] σ Q := by
  refine c_run hn hv (a := 1) (by decide) (by omega) (by omega) hT (fun s19 t1 f1 => ?_)
  rw [hat] at t1 ⊢
  have up : tAb 1 = nI (abN 1) ∨ 1 = 0 := by decide +kernel
  have t1 : TRC n m s19 (L ++ [nI 20]) := t1
  have e16 : ∀ M, (L ++ [nI 20]) ++ M = L ++ (nI 20 :: M) := fun M => by rw [List.append_assoc]; rfl
  refine ⟨fun y => absurd y (by decide), fun y => absurd y (by decide), fun y => absurd y (by decide), fun _ => c_11 hn hk (v := 0) (by decide) rfl (by omega) (by rw [ap1]; omega) t1 (fun s2 t2 f2 => h s2 (by rw [e16] at t2; exact t2) (f1.tr f2)), fun y => absurd y (by decide), fun y => absurd y (by decide), fun y => absurd y (by decide), fun y => absurd y (by decide), fun y => absurd y (by decide), fun y => absurd y (by decide), fun y => absurd y (by decide), fun _ _ _ y _ _ _ _ _ _ _ => absurd rfl y⟩
theorem c_61 {k v dep : Nat} {x : Int32} {Q : Int32 → St → Prop} (hn : nc < 5) (hk : k < 7) (hv : v < 7) (hat : atF 7 v 1 = 5) (hdep : dep ≤ 36) (hL : L.length ≤ 190) (hT : TRC n m σ L)
    (h : ∀ σ', TRC n m σ' (L ++ ((((mPA n m k x).1 + (mEP n 2).1, 61 :: ((mPA n m k x).2 ++ (mEP n 2).2)) : AR)).2) → fr11 σ σ' → Q ((((mPA n m k x).1 + (mEP n 2).1, 61 :: ((mPA n m k x).2 ++ (mEP n 2).2)) : AR)).1 σ') : EI (d + 7) (idsC nc) Y_X0_run [.ref 110, .int (nI k), .int (nI v), .int (nI 1), .int x, .int (nI dep)] σ Q := by
  refine c_run hn hv (a := 1) (by decide) (by omega) (by omega) hT (fun s19 t1 f1 => ?_)
  rw [hat] at t1 ⊢
  have up : tAb 5 = nI (abN 5) ∨ 5 = 0 := by decide +kernel
  have t1 : TRC n m s19 (L ++ [nI 61]) := t1
  have e16 : ∀ M, (L ++ [nI 61]) ++ M = L ++ (nI 61 :: M) := fun M => by rw [List.append_assoc]; rfl
  refine ⟨fun y => absurd y (by decide), fun y => absurd y (by decide), fun y => absurd y (by decide), fun y => absurd y (by decide), fun y => absurd y (by decide), fun y => absurd y (by decide), fun y => absurd y (by decide), fun y => absurd y (by decide), fun y => absurd y (by decide), fun _ => c_11 hn hk (v := 2) (by decide) rfl (by omega) (by rw [ap1]; omega) t1 (fun s2 t2 f2 => c_30 hn hk (v := 2) (by decide) rfl (by omega) (by have := mPA_len n m k x; rw [List.length_append, ap1]; omega) t2 (fun s3 t3 f3 => h s3 (by rw [e16, List.append_assoc] at t3; exact t3) ((f1.tr f2).tr f3))), fun y => absurd y (by decide), fun _ _ _ _ _ _ _ _ _ y _ => absurd rfl y⟩
theorem c_A {k dep : Nat} {x : Int32} {Q : Int32 → St → Prop} (hn : nc < 5) (hk : k < 7) (hdep : dep ≤ 36) (hL : L.length ≤ 190) (hT : TRC n m σ L)
    (h : ∀ σ', TRC n m σ' (L ++ (mA n m k x).2) → fr11 σ σ' → Q (mA n m k x).1 σ') : EI (d + 7) (idsC nc) Y_X0_run [.ref 110, .int (nI k), .int (nI k), .int (nI 1), .int x, .int (nI dep)] σ Q := by
  rcases (by omega : k = 0 ∨ k = 1 ∨ k = 2 ∨ k = 3 ∨ k = 4 ∨ k = 5 ∨ k = 6) with rfl | rfl | rfl | rfl | rfl | rfl | rfl
  · exact c_11 hn hk hk rfl (by omega) (by omega) hT h
  · exact c_20 hn hk hk rfl (by omega) (by omega) hT h
  · exact c_11 hn hk hk rfl (by omega) (by omega) hT h
  · exact c_11 hn hk hk rfl (by omega) (by omega) hT h
  · exact c_11 hn hk hk rfl (by omega) (by omega) hT h
  · exact c_61 hn hk hk rfl (by omega) (by omega) hT h
  · exact c_11 hn hk hk rfl (by omega) (by omega) hT h
theorem c_12 {k v dep : Nat} {x : Int32} {Q : Int32 → St → Prop} (hn : nc < 5) (hk : k < 7) (hv : v < 7) (hat : atF 7 v 2 = 0) (hdep : dep ≤ 35) (hL : L.length ≤ 189) (hT : TRC n m σ L)
    (h : ∀ σ', TRC n m σ' (L ++ (mPT n m k x).2) → fr11 σ σ' → Q (mPT n m k x).1 σ') : EI (d + 8) (idsC nc) Y_X0_run [.ref 110, .int (nI k), .int (nI v), .int (nI 2), .int x, .int (nI dep)] σ Q := by
  refine c_run hn hv (a := 2) (by decide) (by omega) (by omega) hT (fun s19 t1 f1 => ?_)
  rw [hat] at t1 ⊢
  have up : tAb 0 = nI (abN 0) ∨ 0 = 0 := by decide +kernel
  have t1 : TRC n m s19 (L ++ [nI 12]) := t1
  have e16 : ∀ M, (L ++ [nI 12]) ++ M = L ++ (nI 12 :: M) := fun M => by rw [List.append_assoc]; rfl
  refine ⟨fun y => absurd y (by decide), fun y => absurd y (by decide), fun _ => c_A hn hk (by omega) (by rw [ap1]; omega) t1 (fun s2 t2 f2 => h s2 (by rw [e16] at t2; exact t2) (f1.tr f2)), fun y => absurd y (by decide), fun y => absurd y (by decide), fun y => absurd y (by decide), fun y => absurd y (by decide), fun y => absurd y (by decide), fun y => absurd y (by decide), fun y => absurd y (by decide), fun y => absurd y (by decide), fun _ _ y _ _ _ _ _ _ _ _ => absurd rfl y⟩
theorem c_31 {k v dep : Nat} {x : Int32} {Q : Int32 → St → Prop} (hn : nc < 5) (hk : k < 7) (hv : v < 7) (hat : atF 7 v 2 = 2) (hdep : dep ≤ 34) (hL : L.length ≤ 170) (hT : TRC n m σ L)
    (h : ∀ σ', TRC n m σ' (L ++ ((((mPT n m k x).1 + (mA n m k 1).1, 31 :: ((mPT n m k x).2 ++ (mA n m k 1).2)) : AR)).2) → fr11 σ σ' → Q ((((mPT n m k x).1 + (mA n m k 1).1, 31 :: ((mPT n m k x).2 ++ (mA n m k 1).2)) : AR)).1 σ') : EI (d + 9) (idsC nc) Y_X0_run [.ref 110, .int (nI k), .int (nI v), .int (nI 2), .int x, .int (nI dep)] σ Q := by
  refine c_run hn hv (a := 2) (by decide) (by omega) (by omega) hT (fun s19 t1 f1 => ?_)
  rw [hat] at t1 ⊢
  have up : tAb 2 = nI (abN 2) ∨ 2 = 0 := by decide +kernel
  have t1 : TRC n m s19 (L ++ [nI 31]) := t1
  have e16 : ∀ M, (L ++ [nI 31]) ++ M = L ++ (nI 31 :: M) := fun M => by rw [List.append_assoc]; rfl
  refine ⟨fun y => absurd y (by decide), fun y => absurd y (by decide), fun y => absurd y (by decide), fun y => absurd y (by decide), fun y => absurd y (by decide), fun _ => c_12 hn hk (v := 0) (by decide) rfl (by omega) (by rw [ap1]; omega) t1 (fun s2 t2 f2 => c_A hn hk (by omega) (by have := mPT_len n m k x; rw [List.length_append, ap1]; omega) t2 (fun s3 t3 f3 => h s3 (by rw [e16, List.append_assoc] at t3; exact t3) ((f1.tr f2).tr f3))), fun y => absurd y (by decide), fun y => absurd y (by decide), fun y => absurd y (by decide), fun y => absurd y (by decide), fun y => absurd y (by decide), fun _ _ _ _ _ y _ _ _ _ _ => absurd rfl y⟩
theorem c_50 {k v dep : Nat} {x : Int32} {Q : Int32 → St → Prop} (hn : nc < 5) (hk : k < 7) (hv : v < 7) (hat : atF 7 v 2 = 4) (hdep : dep ≤ 34) (hL : L.length ≤ 170) (hT : TRC n m σ L)
    (h : ∀ σ', TRC n m σ' (L ++ ((((mPT n m k (x - n)).1, 50 :: (mPT n m k (x - n)).2) : AR)).2) → fr11 σ σ' → Q ((((mPT n m k (x - n)).1, 50 :: (mPT n m k (x - n)).2) : AR)).1 σ') : EI (d + 9) (idsC nc) Y_X0_run [.ref 110, .int (nI k), .int (nI v), .int (nI 2), .int x, .int (nI dep)] σ Q := by
  refine c_run hn hv (a := 2) (by decide) (by omega) (by omega) hT (fun s19 t1 f1 => ?_)
  rw [hat] at t1 ⊢
  have up : tAb 4 = nI (abN 4) ∨ 4 = 0 := by decide +kernel
  have t1 : TRC n m s19 (L ++ [nI 50]) := t1
  have e16 : ∀ M, (L ++ [nI 50]) ++ M = L ++ (nI 50 :: M) := fun M => by rw [List.append_assoc]; rfl
  refine ⟨fun y => absurd y (by decide), fun y => absurd y (by decide), fun y => absurd y (by decide), fun y => absurd y (by decide), fun y => absurd y (by decide), fun y => absurd y (by decide), fun y => absurd y (by decide), fun _ => (by rw [t1.2.2.1]; exact c_12 hn hk (v := 0) (by decide) rfl (by omega) (by rw [ap1]; omega) t1 (fun s2 t2 f2 => h s2 (by rw [e16] at t2; exact t2) (f1.tr f2))), fun y => absurd y (by decide), fun y => absurd y (by decide), fun y => absurd y (by decide), fun _ _ _ _ _ _ _ y _ _ _ => absurd rfl y⟩
theorem c_70 {k v dep : Nat} {x : Int32} {Q : Int32 → St → Prop} (hn : nc < 5) (hk : k < 7) (hv : v < 7) (hat : atF 7 v 2 = 6) (hdep : dep ≤ 34) (hL : L.length ≤ 170) (hT : TRC n m σ L)
    (h : ∀ σ', TRC n m σ' (L ++ ((((mA n m k x).1 - (mPT n m k x).1, 70 :: ((mA n m k x).2 ++ (mPT n m k x).2)) : AR)).2) → fr11 σ σ' → Q ((((mA n m k x).1 - (mPT n m k x).1, 70 :: ((mA n m k x).2 ++ (mPT n m k x).2)) : AR)).1 σ') : EI (d + 9) (idsC nc) Y_X0_run [.ref 110, .int (nI k), .int (nI v), .int (nI 2), .int x, .int (nI dep)] σ Q := by
  refine c_run hn hv (a := 2) (by decide) (by omega) (by omega) hT (fun s19 t1 f1 => ?_)
  rw [hat] at t1 ⊢
  have up : tAb 6 = nI (abN 6) ∨ 6 = 0 := by decide +kernel
  have t1 : TRC n m s19 (L ++ [nI 70]) := t1
  have e16 : ∀ M, (L ++ [nI 70]) ++ M = L ++ (nI 70 :: M) := fun M => by rw [List.append_assoc]; rfl
  refine ⟨fun y => absurd y (by decide), fun y => absurd y (by decide), fun y => absurd y (by decide), fun y => absurd y (by decide), fun y => absurd y (by decide), fun y => absurd y (by decide), fun y => absurd y (by decide), fun y => absurd y (by decide), fun y => absurd y (by decide), fun y => absurd y (by decide), fun _ => c_A hn hk (by omega) (by rw [ap1]; omega) t1 (fun s2 t2 f2 => c_12 hn hk (v := 0) (by decide) rfl (by omega) (by have := mA_len n m k x; rw [List.length_append, ap1]; omega) t2 (fun s3 t3 f3 => h s3 (by rw [e16, List.append_assoc] at t3; exact t3) ((f1.tr f2).tr f3))), fun _ _ _ _ _ _ _ _ _ _ y => absurd rfl y⟩
theorem c_T {k dep : Nat} {x : Int32} {Q : Int32 → St → Prop} (hn : nc < 5) (hk : k < 7) (hdep : dep ≤ 34) (hL : L.length ≤ 170) (hT : TRC n m σ L)
    (h : ∀ σ', TRC n m σ' (L ++ (mT n m k x).2) → fr11 σ σ' → Q (mT n m k x).1 σ') : EI (d + 9) (idsC nc) Y_X0_run [.ref 110, .int (nI k), .int (nI k), .int (nI 2), .int x, .int (nI dep)] σ Q := by
  rcases (by omega : k = 0 ∨ k = 1 ∨ k = 2 ∨ k = 3 ∨ k = 4 ∨ k = 5 ∨ k = 6) with rfl | rfl | rfl | rfl | rfl | rfl | rfl
  · exact c_12 hn hk hk rfl (by omega) (by omega) hT h
  · exact c_12 hn hk hk rfl (by omega) (by omega) hT h
  · exact c_31 hn hk hk rfl (by omega) (by omega) hT h
  · exact c_12 hn hk hk rfl (by omega) (by omega) hT h
  · exact c_50 hn hk hk rfl (by omega) (by omega) hT h
  · exact c_31 hn hk hk rfl (by omega) (by omega) hT h
  · exact c_70 hn hk hk rfl (by omega) (by omega) hT h
end AD
