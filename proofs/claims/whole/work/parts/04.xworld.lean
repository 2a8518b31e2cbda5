abbrev atys (cA : Nat → ClassId) : List (ClassId × FieldType) := [(cA 0, .long), (cA 1, .int), (cA 2, .object "GridlockDesk$Bank"), (cA 3, .object "GridlockDesk$Payment")]
def cdom (n : Nat) (σ : St) (t i : Nat) : Prop := match t with
  | 0 => i = 0
  | 1 => i = 0
  | 2 => i = 0
  | 3 => i = 0
  | 4 => i < n
  | 5 => i < n
  | 6 => i < n
  | 7 => i < n
  | 8 => i < sN σ
  | _ => False
def cct (cA : Nat → ClassId) (ad : Nat → Nat → Nat) (n : Nat) (σ : St) (t i : Nat) : va_E := match t with
  | 0 => .inr (2, [.ref (ad 1 0), .ref (ad 2 0), .int (sI σ 0 i 0), .long (sL σ 0 i 0), .int (sI σ 1 i 0), .ref (ad 3 0)])
  | 1 => .inl (cA 2, n, .inr (.inr (.inr (.inr (fun j => some (ad 4 j))))))
  | 2 => .inl (cA 3, 100, .inr (.inr (.inr (.inr (fun j => (sR σ 0 i j).map (ad 8))))))
  | 3 => .inl (cA 1, n, .inl (fun j => sI σ 2 i j))
  | 4 => .inr (0, [.long (sL σ 1 i 0), .long (sL σ 2 i 0), .long (sL σ 3 i 0), .ref (ad 5 i), .ref (ad 6 i), .ref (ad 7 i), .int (sI σ 3 i 0)])
  | 5 => .inl (cA 0, n, .inr (.inl (fun j => sL σ 4 i j)))
  | 6 => .inl (cA 0, n, .inr (.inl (fun j => sL σ 5 i j)))
  | 7 => .inl (cA 3, 6, .inr (.inr (.inr (.inr (fun j => (sR σ 1 i j).map (ad 8))))))
  | 8 => .inr (1, [.int (sI σ 4 i 0), .int (sI σ 5 i 0), .int (sI σ 6 i 0), .long (sL σ 6 i 0), .int (sI σ 7 i 0), .int (sI σ 8 i 0), .int (sI σ 9 i 0)])
  | _ => .inr (0, [])
def CW (D : va_G) (cA : Nat → ClassId) (ad : Nat → Nat → Nat) (n : Nat) (A : Nat → Prop) (σ : St) (H : Heap) : Prop := kw D vCl ad (cdom n σ) (cct cA ad n σ) H ∧ ∀ t i, cdom n σ t i → A (ad t i)
theorem CW.wI {D : va_G} {cA : Nat → ClassId} {ad : Nat → Nat → Nat} {n : Nat} {A : Nat → Prop} {σ : St} {H : Heap} {c i : Nat} {j : Nat} {v : Int32} (h : kw D vCl ad (cdom n σ) (cct cA ad n (wI σ c i j v)) H) (hA : ∀ t i, cdom n σ t i → A (ad t i)) : CW D cA ad n A (wI σ c i j v) H := ⟨h, hA⟩
theorem CW.wL {D : va_G} {cA : Nat → ClassId} {ad : Nat → Nat → Nat} {n : Nat} {A : Nat → Prop} {σ : St} {H : Heap} {c i : Nat} {j : Nat} {v : Int64} (h : kw D vCl ad (cdom n σ) (cct cA ad n (wL σ c i j v)) H) (hA : ∀ t i, cdom n σ t i → A (ad t i)) : CW D cA ad n A (wL σ c i j v) H := ⟨h, hA⟩
theorem CW.wR {D : va_G} {cA : Nat → ClassId} {ad : Nat → Nat → Nat} {n : Nat} {A : Nat → Prop} {σ : St} {H : Heap} {c i : Nat} {j : Nat} {v : Option Nat} (h : kw D vCl ad (cdom n σ) (cct cA ad n (wR σ c i j v)) H) (hA : ∀ t i, cdom n σ t i → A (ad t i)) : CW D cA ad n A (wR σ c i j v) H := ⟨h, hA⟩
theorem CW.fI {D : va_G} {cA : Nat → ClassId} {ad : Nat → Nat → Nat} {n : Nat} {A : Nat → Prop} {σ : St} {H : Heap} {c i : Nat} {v : Int32} (h : kw D vCl ad (cdom n σ) (cct cA ad n (fI σ c i v)) H) (hA : ∀ t i, cdom n σ t i → A (ad t i)) : CW D cA ad n A (fI σ c i v) H := ⟨h, hA⟩
theorem CW.fL {D : va_G} {cA : Nat → ClassId} {ad : Nat → Nat → Nat} {n : Nat} {A : Nat → Prop} {σ : St} {H : Heap} {c i : Nat} {v : Int64} (h : kw D vCl ad (cdom n σ) (cct cA ad n (fL σ c i v)) H) (hA : ∀ t i, cdom n σ t i → A (ad t i)) : CW D cA ad n A (fL σ c i v) H := ⟨h, hA⟩
theorem cc_wI0 {cA : Nat → ClassId} {ad : Nat → Nat → Nat} {n : Nat} {σ : St} {v : Int32} : ∀ t' i', cdom n σ t' i' → cct cA ad n (wI σ 0 0 0 v) t' i' = if t' = 0 ∧ i' = 0 then .inr (2, List.set [.ref (ad 1 0), .ref (ad 2 0), .int (sI σ 0 0 0), .long (sL σ 0 0 0), .int (sI σ 1 0 0), .ref (ad 3 0)] 2 (.int v)) else cct cA ad n σ t' i' := by
  intro t' i' h
  match t', h with
  | 0, h =>
    have h : i' = 0 := h
    subst h
    rw [if_pos ⟨rfl, rfl⟩]
    first | rfl | (simp [cct, sI_wI, sL_wI, sR_wI]; done) | (simp [cct, sI_wI, sL_wI, sR_wI]; funext jj; by_cases hj : jj = j <;> simp [sI_wI, sL_wI, sR_wI, hj])
  | 1, h => rw [if_neg (by omega)]; first | rfl | simp [cct, sI_wI, sL_wI, sR_wI]
  | 2, h => rw [if_neg (by omega)]; first | rfl | simp [cct, sI_wI, sL_wI, sR_wI]
  | 3, h => rw [if_neg (by omega)]; first | rfl | simp [cct, sI_wI, sL_wI, sR_wI]
  | 4, h => rw [if_neg (by omega)]; first | rfl | simp [cct, sI_wI, sL_wI, sR_wI]
  | 5, h => rw [if_neg (by omega)]; first | rfl | simp [cct, sI_wI, sL_wI, sR_wI]
  | 6, h => rw [if_neg (by omega)]; first | rfl | simp [cct, sI_wI, sL_wI, sR_wI]
  | 7, h => rw [if_neg (by omega)]; first | rfl | simp [cct, sI_wI, sL_wI, sR_wI]
  | 8, h => rw [if_neg (by omega)]; first | rfl | simp [cct, sI_wI, sL_wI, sR_wI]
theorem cc_wL0 {cA : Nat → ClassId} {ad : Nat → Nat → Nat} {n : Nat} {σ : St} {v : Int64} : ∀ t' i', cdom n σ t' i' → cct cA ad n (wL σ 0 0 0 v) t' i' = if t' = 0 ∧ i' = 0 then .inr (2, List.set [.ref (ad 1 0), .ref (ad 2 0), .int (sI σ 0 0 0), .long (sL σ 0 0 0), .int (sI σ 1 0 0), .ref (ad 3 0)] 3 (.long v)) else cct cA ad n σ t' i' := by
  intro t' i' h
  match t', h with
  | 0, h =>
    have h : i' = 0 := h
    subst h
    rw [if_pos ⟨rfl, rfl⟩]
    first | rfl | (simp [cct, sI_wL, sL_wL, sR_wL]; done) | (simp [cct, sI_wL, sL_wL, sR_wL]; funext jj; by_cases hj : jj = j <;> simp [sI_wL, sL_wL, sR_wL, hj])
  | 1, h => rw [if_neg (by omega)]; first | rfl | simp [cct, sI_wL, sL_wL, sR_wL]
  | 2, h => rw [if_neg (by omega)]; first | rfl | simp [cct, sI_wL, sL_wL, sR_wL]
  | 3, h => rw [if_neg (by omega)]; first | rfl | simp [cct, sI_wL, sL_wL, sR_wL]
  | 4, h => rw [if_neg (by omega)]; first | rfl | simp [cct, sI_wL, sL_wL, sR_wL]
  | 5, h => rw [if_neg (by omega)]; first | rfl | simp [cct, sI_wL, sL_wL, sR_wL]
  | 6, h => rw [if_neg (by omega)]; first | rfl | simp [cct, sI_wL, sL_wL, sR_wL]
  | 7, h => rw [if_neg (by omega)]; first | rfl | simp [cct, sI_wL, sL_wL, sR_wL]
  | 8, h => rw [if_neg (by omega)]; first | rfl | simp [cct, sI_wL, sL_wL, sR_wL]
theorem cc_wI1 {cA : Nat → ClassId} {ad : Nat → Nat → Nat} {n : Nat} {σ : St} {v : Int32} : ∀ t' i', cdom n σ t' i' → cct cA ad n (wI σ 1 0 0 v) t' i' = if t' = 0 ∧ i' = 0 then .inr (2, List.set [.ref (ad 1 0), .ref (ad 2 0), .int (sI σ 0 0 0), .long (sL σ 0 0 0), .int (sI σ 1 0 0), .ref (ad 3 0)] 4 (.int v)) else cct cA ad n σ t' i' := by
  intro t' i' h
  match t', h with
  | 0, h =>
    have h : i' = 0 := h
    subst h
    rw [if_pos ⟨rfl, rfl⟩]
    first | rfl | (simp [cct, sI_wI, sL_wI, sR_wI]; done) | (simp [cct, sI_wI, sL_wI, sR_wI]; funext jj; by_cases hj : jj = j <;> simp [sI_wI, sL_wI, sR_wI, hj])
  | 1, h => rw [if_neg (by omega)]; first | rfl | simp [cct, sI_wI, sL_wI, sR_wI]
  | 2, h => rw [if_neg (by omega)]; first | rfl | simp [cct, sI_wI, sL_wI, sR_wI]
  | 3, h => rw [if_neg (by omega)]; first | rfl | simp [cct, sI_wI, sL_wI, sR_wI]
  | 4, h => rw [if_neg (by omega)]; first | rfl | simp [cct, sI_wI, sL_wI, sR_wI]
  | 5, h => rw [if_neg (by omega)]; first | rfl | simp [cct, sI_wI, sL_wI, sR_wI]
  | 6, h => rw [if_neg (by omega)]; first | rfl | simp [cct, sI_wI, sL_wI, sR_wI]
  | 7, h => rw [if_neg (by omega)]; first | rfl | simp [cct, sI_wI, sL_wI, sR_wI]
  | 8, h => rw [if_neg (by omega)]; first | rfl | simp [cct, sI_wI, sL_wI, sR_wI]
theorem cc_wR0 {cA : Nat → ClassId} {ad : Nat → Nat → Nat} {n : Nat} {σ : St} {j k : Nat} : ∀ t' i', cdom n σ t' i' → cct cA ad n (wR σ 0 0 j (some k)) t' i' = if t' = 2 ∧ i' = 0 then .inl (cA 3, 100, .inr (.inr (.inr (.inr (va_up (fun j => (sR σ 0 0 j).map (ad 8)) j (some (ad 8 k))))))) else cct cA ad n σ t' i' := by
  intro t' i' h
  match t', h with
  | 0, h => rw [if_neg (by omega)]; first | rfl | simp [cct, sI_wR, sL_wR, sR_wR, va_up]
  | 1, h => rw [if_neg (by omega)]; first | rfl | simp [cct, sI_wR, sL_wR, sR_wR, va_up]
  | 2, h =>
    have h : i' = 0 := h
    subst h
    rw [if_pos ⟨rfl, rfl⟩]
    first | rfl | (simp [cct, sI_wR, sL_wR, sR_wR, va_up]; done) | (simp [cct, sI_wR, sL_wR, sR_wR, va_up]; funext jj; by_cases hj : jj = j <;> simp [sI_wR, sL_wR, sR_wR, va_up, hj])
  | 3, h => rw [if_neg (by omega)]; first | rfl | simp [cct, sI_wR, sL_wR, sR_wR, va_up]
  | 4, h => rw [if_neg (by omega)]; first | rfl | simp [cct, sI_wR, sL_wR, sR_wR, va_up]
  | 5, h => rw [if_neg (by omega)]; first | rfl | simp [cct, sI_wR, sL_wR, sR_wR, va_up]
  | 6, h => rw [if_neg (by omega)]; first | rfl | simp [cct, sI_wR, sL_wR, sR_wR, va_up]
  | 7, h => rw [if_neg (by omega)]; first | rfl | simp [cct, sI_wR, sL_wR, sR_wR, va_up]
  | 8, h => rw [if_neg (by omega)]; first | rfl | simp [cct, sI_wR, sL_wR, sR_wR, va_up]
theorem cc_wI2 {cA : Nat → ClassId} {ad : Nat → Nat → Nat} {n : Nat} {σ : St} {j : Nat} {v : Int32} : ∀ t' i', cdom n σ t' i' → cct cA ad n (wI σ 2 0 j v) t' i' = if t' = 3 ∧ i' = 0 then .inl (cA 1, n, .inl (upd (fun j => sI σ 2 0 j) j v)) else cct cA ad n σ t' i' := by
  intro t' i' h
  match t', h with
  | 0, h => rw [if_neg (by omega)]; first | rfl | simp [cct, sI_wI, sL_wI, sR_wI, upd]
  | 1, h => rw [if_neg (by omega)]; first | rfl | simp [cct, sI_wI, sL_wI, sR_wI, upd]
  | 2, h => rw [if_neg (by omega)]; first | rfl | simp [cct, sI_wI, sL_wI, sR_wI, upd]
  | 3, h =>
    have h : i' = 0 := h
    subst h
    rw [if_pos ⟨rfl, rfl⟩]
    first | rfl | (simp [cct, sI_wI, sL_wI, sR_wI, upd]; done) | (simp [cct, sI_wI, sL_wI, sR_wI, upd]; funext jj; by_cases hj : jj = j <;> simp [sI_wI, sL_wI, sR_wI, upd, hj])
  | 4, h => rw [if_neg (by omega)]; first | rfl | simp [cct, sI_wI, sL_wI, sR_wI, upd]
  | 5, h => rw [if_neg (by omega)]; first | rfl | simp [cct, sI_wI, sL_wI, sR_wI, upd]
  | 6, h => rw [if_neg (by omega)]; first | rfl | simp [cct, sI_wI, sL_wI, sR_wI, upd]
  | 7, h => rw [if_neg (by omega)]; first | rfl | simp [cct, sI_wI, sL_wI, sR_wI, upd]
  | 8, h => rw [if_neg (by omega)]; first | rfl | simp [cct, sI_wI, sL_wI, sR_wI, upd]
theorem cc_fI2 {cA : Nat → ClassId} {ad : Nat → Nat → Nat} {n : Nat} {σ : St} {v : Int32} : ∀ t' i', cdom n σ t' i' → cct cA ad n (fI σ 2 0 v) t' i' = if t' = 3 ∧ i' = 0 then .inl (cA 1, n, .inl (fun _ => v)) else cct cA ad n σ t' i' := by
  intro t' i' h
  match t', h with
  | 0, h => rw [if_neg (by omega)]; first | rfl | simp [cct, sI_fI, sL_fI, sR_fI]
  | 1, h => rw [if_neg (by omega)]; first | rfl | simp [cct, sI_fI, sL_fI, sR_fI]
  | 2, h => rw [if_neg (by omega)]; first | rfl | simp [cct, sI_fI, sL_fI, sR_fI]
  | 3, h =>
    have h : i' = 0 := h
    subst h
    rw [if_pos ⟨rfl, rfl⟩]
    first | rfl | (simp [cct, sI_fI, sL_fI, sR_fI]; done) | (simp [cct, sI_fI, sL_fI, sR_fI]; funext jj; by_cases hj : jj = j <;> simp [sI_fI, sL_fI, sR_fI, hj])
  | 4, h => rw [if_neg (by omega)]; first | rfl | simp [cct, sI_fI, sL_fI, sR_fI]
  | 5, h => rw [if_neg (by omega)]; first | rfl | simp [cct, sI_fI, sL_fI, sR_fI]
  | 6, h => rw [if_neg (by omega)]; first | rfl | simp [cct, sI_fI, sL_fI, sR_fI]
  | 7, h => rw [if_neg (by omega)]; first | rfl | simp [cct, sI_fI, sL_fI, sR_fI]
  | 8, h => rw [if_neg (by omega)]; first | rfl | simp [cct, sI_fI, sL_fI, sR_fI]
theorem cc_wL1 {cA : Nat → ClassId} {ad : Nat → Nat → Nat} {n : Nat} {σ : St} {i : Nat} {v : Int64} : ∀ t' i', cdom n σ t' i' → cct cA ad n (wL σ 1 i 0 v) t' i' = if t' = 4 ∧ i' = i then .inr (0, List.set [.long (sL σ 1 i 0), .long (sL σ 2 i 0), .long (sL σ 3 i 0), .ref (ad 5 i), .ref (ad 6 i), .ref (ad 7 i), .int (sI σ 3 i 0)] 0 (.long v)) else cct cA ad n σ t' i' := by
  intro t' i' h
  match t', h with
  | 0, h => rw [if_neg (by omega)]; first | rfl | simp [cct, sI_wL, sL_wL, sR_wL]
  | 1, h => rw [if_neg (by omega)]; first | rfl | simp [cct, sI_wL, sL_wL, sR_wL]
  | 2, h => rw [if_neg (by omega)]; first | rfl | simp [cct, sI_wL, sL_wL, sR_wL]
  | 3, h => rw [if_neg (by omega)]; first | rfl | simp [cct, sI_wL, sL_wL, sR_wL]
  | 4, h =>
    by_cases hi : i' = i
    · subst hi
      rw [if_pos ⟨rfl, rfl⟩]
      first | rfl | (simp [cct, sI_wL, sL_wL, sR_wL]; done) | (simp [cct, sI_wL, sL_wL, sR_wL]; funext jj; by_cases hj : jj = j <;> simp [sI_wL, sL_wL, sR_wL, hj])
    · rw [if_neg (fun q => hi q.2)]
      first | rfl | (simp [cct, sI_wL, sL_wL, sR_wL, hi]; done)
  | 5, h => rw [if_neg (by omega)]; first | rfl | simp [cct, sI_wL, sL_wL, sR_wL]
  | 6, h => rw [if_neg (by omega)]; first | rfl | simp [cct, sI_wL, sL_wL, sR_wL]
  | 7, h => rw [if_neg (by omega)]; first | rfl | simp [cct, sI_wL, sL_wL, sR_wL]
  | 8, h => rw [if_neg (by omega)]; first | rfl | simp [cct, sI_wL, sL_wL, sR_wL]
theorem cc_wL2 {cA : Nat → ClassId} {ad : Nat → Nat → Nat} {n : Nat} {σ : St} {i : Nat} {v : Int64} : ∀ t' i', cdom n σ t' i' → cct cA ad n (wL σ 2 i 0 v) t' i' = if t' = 4 ∧ i' = i then .inr (0, List.set [.long (sL σ 1 i 0), .long (sL σ 2 i 0), .long (sL σ 3 i 0), .ref (ad 5 i), .ref (ad 6 i), .ref (ad 7 i), .int (sI σ 3 i 0)] 1 (.long v)) else cct cA ad n σ t' i' := by
  intro t' i' h
  match t', h with
  | 0, h => rw [if_neg (by omega)]; first | rfl | simp [cct, sI_wL, sL_wL, sR_wL]
  | 1, h => rw [if_neg (by omega)]; first | rfl | simp [cct, sI_wL, sL_wL, sR_wL]
  | 2, h => rw [if_neg (by omega)]; first | rfl | simp [cct, sI_wL, sL_wL, sR_wL]
  | 3, h => rw [if_neg (by omega)]; first | rfl | simp [cct, sI_wL, sL_wL, sR_wL]
  | 4, h =>
    by_cases hi : i' = i
    · subst hi
      rw [if_pos ⟨rfl, rfl⟩]
      first | rfl | (simp [cct, sI_wL, sL_wL, sR_wL]; done) | (simp [cct, sI_wL, sL_wL, sR_wL]; funext jj; by_cases hj : jj = j <;> simp [sI_wL, sL_wL, sR_wL, hj])
    · rw [if_neg (fun q => hi q.2)]
      first | rfl | (simp [cct, sI_wL, sL_wL, sR_wL, hi]; done)
  | 5, h => rw [if_neg (by omega)]; first | rfl | simp [cct, sI_wL, sL_wL, sR_wL]
  | 6, h => rw [if_neg (by omega)]; first | rfl | simp [cct, sI_wL, sL_wL, sR_wL]
  | 7, h => rw [if_neg (by omega)]; first | rfl | simp [cct, sI_wL, sL_wL, sR_wL]
  | 8, h => rw [if_neg (by omega)]; first | rfl | simp [cct, sI_wL, sL_wL, sR_wL]
theorem cc_wL3 {cA : Nat → ClassId} {ad : Nat → Nat → Nat} {n : Nat} {σ : St} {i : Nat} {v : Int64} : ∀ t' i', cdom n σ t' i' → cct cA ad n (wL σ 3 i 0 v) t' i' = if t' = 4 ∧ i' = i then .inr (0, List.set [.long (sL σ 1 i 0), .long (sL σ 2 i 0), .long (sL σ 3 i 0), .ref (ad 5 i), .ref (ad 6 i), .ref (ad 7 i), .int (sI σ 3 i 0)] 2 (.long v)) else cct cA ad n σ t' i' := by
  intro t' i' h
  match t', h with
  | 0, h => rw [if_neg (by omega)]; first | rfl | simp [cct, sI_wL, sL_wL, sR_wL]
  | 1, h => rw [if_neg (by omega)]; first | rfl | simp [cct, sI_wL, sL_wL, sR_wL]
  | 2, h => rw [if_neg (by omega)]; first | rfl | simp [cct, sI_wL, sL_wL, sR_wL]
  | 3, h => rw [if_neg (by omega)]; first | rfl | simp [cct, sI_wL, sL_wL, sR_wL]
  | 4, h =>
    by_cases hi : i' = i
    · subst hi
      rw [if_pos ⟨rfl, rfl⟩]
      first | rfl | (simp [cct, sI_wL, sL_wL, sR_wL]; done) | (simp [cct, sI_wL, sL_wL, sR_wL]; funext jj; by_cases hj : jj = j <;> simp [sI_wL, sL_wL, sR_wL, hj])
    · rw [if_neg (fun q => hi q.2)]
      first | rfl | (simp [cct, sI_wL, sL_wL, sR_wL, hi]; done)
  | 5, h => rw [if_neg (by omega)]; first | rfl | simp [cct, sI_wL, sL_wL, sR_wL]
  | 6, h => rw [if_neg (by omega)]; first | rfl | simp [cct, sI_wL, sL_wL, sR_wL]
  | 7, h => rw [if_neg (by omega)]; first | rfl | simp [cct, sI_wL, sL_wL, sR_wL]
  | 8, h => rw [if_neg (by omega)]; first | rfl | simp [cct, sI_wL, sL_wL, sR_wL]
theorem cc_wI3 {cA : Nat → ClassId} {ad : Nat → Nat → Nat} {n : Nat} {σ : St} {i : Nat} {v : Int32} : ∀ t' i', cdom n σ t' i' → cct cA ad n (wI σ 3 i 0 v) t' i' = if t' = 4 ∧ i' = i then .inr (0, List.set [.long (sL σ 1 i 0), .long (sL σ 2 i 0), .long (sL σ 3 i 0), .ref (ad 5 i), .ref (ad 6 i), .ref (ad 7 i), .int (sI σ 3 i 0)] 6 (.int v)) else cct cA ad n σ t' i' := by
  intro t' i' h
  match t', h with
  | 0, h => rw [if_neg (by omega)]; first | rfl | simp [cct, sI_wI, sL_wI, sR_wI]
  | 1, h => rw [if_neg (by omega)]; first | rfl | simp [cct, sI_wI, sL_wI, sR_wI]
  | 2, h => rw [if_neg (by omega)]; first | rfl | simp [cct, sI_wI, sL_wI, sR_wI]
  | 3, h => rw [if_neg (by omega)]; first | rfl | simp [cct, sI_wI, sL_wI, sR_wI]
  | 4, h =>
    by_cases hi : i' = i
    · subst hi
      rw [if_pos ⟨rfl, rfl⟩]
      first | rfl | (simp [cct, sI_wI, sL_wI, sR_wI]; done) | (simp [cct, sI_wI, sL_wI, sR_wI]; funext jj; by_cases hj : jj = j <;> simp [sI_wI, sL_wI, sR_wI, hj])
    · rw [if_neg (fun q => hi q.2)]
      first | rfl | (simp [cct, sI_wI, sL_wI, sR_wI, hi]; done)
  | 5, h => rw [if_neg (by omega)]; first | rfl | simp [cct, sI_wI, sL_wI, sR_wI]
  | 6, h => rw [if_neg (by omega)]; first | rfl | simp [cct, sI_wI, sL_wI, sR_wI]
  | 7, h => rw [if_neg (by omega)]; first | rfl | simp [cct, sI_wI, sL_wI, sR_wI]
  | 8, h => rw [if_neg (by omega)]; first | rfl | simp [cct, sI_wI, sL_wI, sR_wI]
theorem cc_wL4 {cA : Nat → ClassId} {ad : Nat → Nat → Nat} {n : Nat} {σ : St} {i : Nat} {j : Nat} {v : Int64} : ∀ t' i', cdom n σ t' i' → cct cA ad n (wL σ 4 i j v) t' i' = if t' = 5 ∧ i' = i then .inl (cA 0, n, .inr (.inl (vp_updL (fun j => sL σ 4 i j) j v))) else cct cA ad n σ t' i' := by
  intro t' i' h
  match t', h with
  | 0, h => rw [if_neg (by omega)]; first | rfl | simp [cct, sI_wL, sL_wL, sR_wL, vp_updL]
  | 1, h => rw [if_neg (by omega)]; first | rfl | simp [cct, sI_wL, sL_wL, sR_wL, vp_updL]
  | 2, h => rw [if_neg (by omega)]; first | rfl | simp [cct, sI_wL, sL_wL, sR_wL, vp_updL]
  | 3, h => rw [if_neg (by omega)]; first | rfl | simp [cct, sI_wL, sL_wL, sR_wL, vp_updL]
  | 4, h => rw [if_neg (by omega)]; first | rfl | simp [cct, sI_wL, sL_wL, sR_wL, vp_updL]
  | 5, h =>
    by_cases hi : i' = i
    · subst hi
      rw [if_pos ⟨rfl, rfl⟩]
      first | rfl | (simp [cct, sI_wL, sL_wL, sR_wL, vp_updL]; done) | (simp [cct, sI_wL, sL_wL, sR_wL, vp_updL]; funext jj; by_cases hj : jj = j <;> simp [sI_wL, sL_wL, sR_wL, vp_updL, hj])
    · rw [if_neg (fun q => hi q.2)]
      first | rfl | (simp [cct, sI_wL, sL_wL, sR_wL, vp_updL, hi]; done)
  | 6, h => rw [if_neg (by omega)]; first | rfl | simp [cct, sI_wL, sL_wL, sR_wL, vp_updL]
  | 7, h => rw [if_neg (by omega)]; first | rfl | simp [cct, sI_wL, sL_wL, sR_wL, vp_updL]
  | 8, h => rw [if_neg (by omega)]; first | rfl | simp [cct, sI_wL, sL_wL, sR_wL, vp_updL]
theorem cc_fL4 {cA : Nat → ClassId} {ad : Nat → Nat → Nat} {n : Nat} {σ : St} {i : Nat} {v : Int64} : ∀ t' i', cdom n σ t' i' → cct cA ad n (fL σ 4 i v) t' i' = if t' = 5 ∧ i' = i then .inl (cA 0, n, .inr (.inl (fun _ => v))) else cct cA ad n σ t' i' := by
  intro t' i' h
  match t', h with
  | 0, h => rw [if_neg (by omega)]; first | rfl | simp [cct, sI_fL, sL_fL, sR_fL]
  | 1, h => rw [if_neg (by omega)]; first | rfl | simp [cct, sI_fL, sL_fL, sR_fL]
  | 2, h => rw [if_neg (by omega)]; first | rfl | simp [cct, sI_fL, sL_fL, sR_fL]
  | 3, h => rw [if_neg (by omega)]; first | rfl | simp [cct, sI_fL, sL_fL, sR_fL]
  | 4, h => rw [if_neg (by omega)]; first | rfl | simp [cct, sI_fL, sL_fL, sR_fL]
  | 5, h =>
    by_cases hi : i' = i
    · subst hi
      rw [if_pos ⟨rfl, rfl⟩]
      first | rfl | (simp [cct, sI_fL, sL_fL, sR_fL]; done) | (simp [cct, sI_fL, sL_fL, sR_fL]; funext jj; by_cases hj : jj = j <;> simp [sI_fL, sL_fL, sR_fL, hj])
    · rw [if_neg (fun q => hi q.2)]
      first | rfl | (simp [cct, sI_fL, sL_fL, sR_fL, hi]; done)
  | 6, h => rw [if_neg (by omega)]; first | rfl | simp [cct, sI_fL, sL_fL, sR_fL]
  | 7, h => rw [if_neg (by omega)]; first | rfl | simp [cct, sI_fL, sL_fL, sR_fL]
  | 8, h => rw [if_neg (by omega)]; first | rfl | simp [cct, sI_fL, sL_fL, sR_fL]
theorem cc_wL5 {cA : Nat → ClassId} {ad : Nat → Nat → Nat} {n : Nat} {σ : St} {i : Nat} {j : Nat} {v : Int64} : ∀ t' i', cdom n σ t' i' → cct cA ad n (wL σ 5 i j v) t' i' = if t' = 6 ∧ i' = i then .inl (cA 0, n, .inr (.inl (vp_updL (fun j => sL σ 5 i j) j v))) else cct cA ad n σ t' i' := by
  intro t' i' h
  match t', h with
  | 0, h => rw [if_neg (by omega)]; first | rfl | simp [cct, sI_wL, sL_wL, sR_wL, vp_updL]
  | 1, h => rw [if_neg (by omega)]; first | rfl | simp [cct, sI_wL, sL_wL, sR_wL, vp_updL]
  | 2, h => rw [if_neg (by omega)]; first | rfl | simp [cct, sI_wL, sL_wL, sR_wL, vp_updL]
  | 3, h => rw [if_neg (by omega)]; first | rfl | simp [cct, sI_wL, sL_wL, sR_wL, vp_updL]
  | 4, h => rw [if_neg (by omega)]; first | rfl | simp [cct, sI_wL, sL_wL, sR_wL, vp_updL]
  | 5, h => rw [if_neg (by omega)]; first | rfl | simp [cct, sI_wL, sL_wL, sR_wL, vp_updL]
  | 6, h =>
    by_cases hi : i' = i
    · subst hi
      rw [if_pos ⟨rfl, rfl⟩]
      first | rfl | (simp [cct, sI_wL, sL_wL, sR_wL, vp_updL]; done) | (simp [cct, sI_wL, sL_wL, sR_wL, vp_updL]; funext jj; by_cases hj : jj = j <;> simp [sI_wL, sL_wL, sR_wL, vp_updL, hj])
    · rw [if_neg (fun q => hi q.2)]
      first | rfl | (simp [cct, sI_wL, sL_wL, sR_wL, vp_updL, hi]; done)
  | 7, h => rw [if_neg (by omega)]; first | rfl | simp [cct, sI_wL, sL_wL, sR_wL, vp_updL]
  | 8, h => rw [if_neg (by omega)]; first | rfl | simp [cct, sI_wL, sL_wL, sR_wL, vp_updL]
theorem cc_fL5 {cA : Nat → ClassId} {ad : Nat → Nat → Nat} {n : Nat} {σ : St} {i : Nat} {v : Int64} : ∀ t' i', cdom n σ t' i' → cct cA ad n (fL σ 5 i v) t' i' = if t' = 6 ∧ i' = i then .inl (cA 0, n, .inr (.inl (fun _ => v))) else cct cA ad n σ t' i' := by
  intro t' i' h
  match t', h with
  | 0, h => rw [if_neg (by omega)]; first | rfl | simp [cct, sI_fL, sL_fL, sR_fL]
  | 1, h => rw [if_neg (by omega)]; first | rfl | simp [cct, sI_fL, sL_fL, sR_fL]
  | 2, h => rw [if_neg (by omega)]; first | rfl | simp [cct, sI_fL, sL_fL, sR_fL]
  | 3, h => rw [if_neg (by omega)]; first | rfl | simp [cct, sI_fL, sL_fL, sR_fL]
  | 4, h => rw [if_neg (by omega)]; first | rfl | simp [cct, sI_fL, sL_fL, sR_fL]
  | 5, h => rw [if_neg (by omega)]; first | rfl | simp [cct, sI_fL, sL_fL, sR_fL]
  | 6, h =>
    by_cases hi : i' = i
    · subst hi
      rw [if_pos ⟨rfl, rfl⟩]
      first | rfl | (simp [cct, sI_fL, sL_fL, sR_fL]; done) | (simp [cct, sI_fL, sL_fL, sR_fL]; funext jj; by_cases hj : jj = j <;> simp [sI_fL, sL_fL, sR_fL, hj])
    · rw [if_neg (fun q => hi q.2)]
      first | rfl | (simp [cct, sI_fL, sL_fL, sR_fL, hi]; done)
  | 7, h => rw [if_neg (by omega)]; first | rfl | simp [cct, sI_fL, sL_fL, sR_fL]
  | 8, h => rw [if_neg (by omega)]; first | rfl | simp [cct, sI_fL, sL_fL, sR_fL]
theorem cc_wR1 {cA : Nat → ClassId} {ad : Nat → Nat → Nat} {n : Nat} {σ : St} {i : Nat} {j k : Nat} : ∀ t' i', cdom n σ t' i' → cct cA ad n (wR σ 1 i j (some k)) t' i' = if t' = 7 ∧ i' = i then .inl (cA 3, 6, .inr (.inr (.inr (.inr (va_up (fun j => (sR σ 1 i j).map (ad 8)) j (some (ad 8 k))))))) else cct cA ad n σ t' i' := by
  intro t' i' h
  match t', h with
  | 0, h => rw [if_neg (by omega)]; first | rfl | simp [cct, sI_wR, sL_wR, sR_wR, va_up]
  | 1, h => rw [if_neg (by omega)]; first | rfl | simp [cct, sI_wR, sL_wR, sR_wR, va_up]
  | 2, h => rw [if_neg (by omega)]; first | rfl | simp [cct, sI_wR, sL_wR, sR_wR, va_up]
  | 3, h => rw [if_neg (by omega)]; first | rfl | simp [cct, sI_wR, sL_wR, sR_wR, va_up]
  | 4, h => rw [if_neg (by omega)]; first | rfl | simp [cct, sI_wR, sL_wR, sR_wR, va_up]
  | 5, h => rw [if_neg (by omega)]; first | rfl | simp [cct, sI_wR, sL_wR, sR_wR, va_up]
  | 6, h => rw [if_neg (by omega)]; first | rfl | simp [cct, sI_wR, sL_wR, sR_wR, va_up]
  | 7, h =>
    by_cases hi : i' = i
    · subst hi
      rw [if_pos ⟨rfl, rfl⟩]
      first | rfl | (simp [cct, sI_wR, sL_wR, sR_wR, va_up]; done) | (simp [cct, sI_wR, sL_wR, sR_wR, va_up]; funext jj; by_cases hj : jj = j <;> simp [sI_wR, sL_wR, sR_wR, va_up, hj])
    · rw [if_neg (fun q => hi q.2)]
      first | rfl | (simp [cct, sI_wR, sL_wR, sR_wR, va_up, hi]; done)
  | 8, h => rw [if_neg (by omega)]; first | rfl | simp [cct, sI_wR, sL_wR, sR_wR, va_up]
theorem cc_wI4 {cA : Nat → ClassId} {ad : Nat → Nat → Nat} {n : Nat} {σ : St} {i : Nat} {v : Int32} : ∀ t' i', cdom n σ t' i' → cct cA ad n (wI σ 4 i 0 v) t' i' = if t' = 8 ∧ i' = i then .inr (1, List.set [.int (sI σ 4 i 0), .int (sI σ 5 i 0), .int (sI σ 6 i 0), .long (sL σ 6 i 0), .int (sI σ 7 i 0), .int (sI σ 8 i 0), .int (sI σ 9 i 0)] 0 (.int v)) else cct cA ad n σ t' i' := by
  intro t' i' h
  match t', h with
  | 0, h => rw [if_neg (by omega)]; first | rfl | simp [cct, sI_wI, sL_wI, sR_wI]
  | 1, h => rw [if_neg (by omega)]; first | rfl | simp [cct, sI_wI, sL_wI, sR_wI]
  | 2, h => rw [if_neg (by omega)]; first | rfl | simp [cct, sI_wI, sL_wI, sR_wI]
  | 3, h => rw [if_neg (by omega)]; first | rfl | simp [cct, sI_wI, sL_wI, sR_wI]
  | 4, h => rw [if_neg (by omega)]; first | rfl | simp [cct, sI_wI, sL_wI, sR_wI]
  | 5, h => rw [if_neg (by omega)]; first | rfl | simp [cct, sI_wI, sL_wI, sR_wI]
  | 6, h => rw [if_neg (by omega)]; first | rfl | simp [cct, sI_wI, sL_wI, sR_wI]
  | 7, h => rw [if_neg (by omega)]; first | rfl | simp [cct, sI_wI, sL_wI, sR_wI]
  | 8, h =>
    by_cases hi : i' = i
    · subst hi
      rw [if_pos ⟨rfl, rfl⟩]
      first | rfl | (simp [cct, sI_wI, sL_wI, sR_wI]; done) | (simp [cct, sI_wI, sL_wI, sR_wI]; funext jj; by_cases hj : jj = j <;> simp [sI_wI, sL_wI, sR_wI, hj])
    · rw [if_neg (fun q => hi q.2)]
      first | rfl | (simp [cct, sI_wI, sL_wI, sR_wI, hi]; done)
theorem cc_wI5 {cA : Nat → ClassId} {ad : Nat → Nat → Nat} {n : Nat} {σ : St} {i : Nat} {v : Int32} : ∀ t' i', cdom n σ t' i' → cct cA ad n (wI σ 5 i 0 v) t' i' = if t' = 8 ∧ i' = i then .inr (1, List.set [.int (sI σ 4 i 0), .int (sI σ 5 i 0), .int (sI σ 6 i 0), .long (sL σ 6 i 0), .int (sI σ 7 i 0), .int (sI σ 8 i 0), .int (sI σ 9 i 0)] 1 (.int v)) else cct cA ad n σ t' i' := by
  intro t' i' h
  match t', h with
  | 0, h => rw [if_neg (by omega)]; first | rfl | simp [cct, sI_wI, sL_wI, sR_wI]
  | 1, h => rw [if_neg (by omega)]; first | rfl | simp [cct, sI_wI, sL_wI, sR_wI]
  | 2, h => rw [if_neg (by omega)]; first | rfl | simp [cct, sI_wI, sL_wI, sR_wI]
  | 3, h => rw [if_neg (by omega)]; first | rfl | simp [cct, sI_wI, sL_wI, sR_wI]
  | 4, h => rw [if_neg (by omega)]; first | rfl | simp [cct, sI_wI, sL_wI, sR_wI]
  | 5, h => rw [if_neg (by omega)]; first | rfl | simp [cct, sI_wI, sL_wI, sR_wI]
  | 6, h => rw [if_neg (by omega)]; first | rfl | simp [cct, sI_wI, sL_wI, sR_wI]
  | 7, h => rw [if_neg (by omega)]; first | rfl | simp [cct, sI_wI, sL_wI, sR_wI]
  | 8, h =>
    by_cases hi : i' = i
    · subst hi
      rw [if_pos ⟨rfl, rfl⟩]
      first | rfl | (simp [cct, sI_wI, sL_wI, sR_wI]; done) | (simp [cct, sI_wI, sL_wI, sR_wI]; funext jj; by_cases hj : jj = j <;> simp [sI_wI, sL_wI, sR_wI, hj])
    · rw [if_neg (fun q => hi q.2)]
      first | rfl | (simp [cct, sI_wI, sL_wI, sR_wI, hi]; done)
theorem cc_wI6 {cA : Nat → ClassId} {ad : Nat → Nat → Nat} {n : Nat} {σ : St} {i : Nat} {v : Int32} : ∀ t' i', cdom n σ t' i' → cct cA ad n (wI σ 6 i 0 v) t' i' = if t' = 8 ∧ i' = i then .inr (1, List.set [.int (sI σ 4 i 0), .int (sI σ 5 i 0), .int (sI σ 6 i 0), .long (sL σ 6 i 0), .int (sI σ 7 i 0), .int (sI σ 8 i 0), .int (sI σ 9 i 0)] 2 (.int v)) else cct cA ad n σ t' i' := by
  intro t' i' h
  match t', h with
  | 0, h => rw [if_neg (by omega)]; first | rfl | simp [cct, sI_wI, sL_wI, sR_wI]
  | 1, h => rw [if_neg (by omega)]; first | rfl | simp [cct, sI_wI, sL_wI, sR_wI]
  | 2, h => rw [if_neg (by omega)]; first | rfl | simp [cct, sI_wI, sL_wI, sR_wI]
  | 3, h => rw [if_neg (by omega)]; first | rfl | simp [cct, sI_wI, sL_wI, sR_wI]
  | 4, h => rw [if_neg (by omega)]; first | rfl | simp [cct, sI_wI, sL_wI, sR_wI]
  | 5, h => rw [if_neg (by omega)]; first | rfl | simp [cct, sI_wI, sL_wI, sR_wI]
  | 6, h => rw [if_neg (by omega)]; first | rfl | simp [cct, sI_wI, sL_wI, sR_wI]
  | 7, h => rw [if_neg (by omega)]; first | rfl | simp [cct, sI_wI, sL_wI, sR_wI]
  | 8, h =>
    by_cases hi : i' = i
    · subst hi
      rw [if_pos ⟨rfl, rfl⟩]
      first | rfl | (simp [cct, sI_wI, sL_wI, sR_wI]; done) | (simp [cct, sI_wI, sL_wI, sR_wI]; funext jj; by_cases hj : jj = j <;> simp [sI_wI, sL_wI, sR_wI, hj])
    · rw [if_neg (fun q => hi q.2)]
      first | rfl | (simp [cct, sI_wI, sL_wI, sR_wI, hi]; done)
theorem cc_wL6 {cA : Nat → ClassId} {ad : Nat → Nat → Nat} {n : Nat} {σ : St} {i : Nat} {v : Int64} : ∀ t' i', cdom n σ t' i' → cct cA ad n (wL σ 6 i 0 v) t' i' = if t' = 8 ∧ i' = i then .inr (1, List.set [.int (sI σ 4 i 0), .int (sI σ 5 i 0), .int (sI σ 6 i 0), .long (sL σ 6 i 0), .int (sI σ 7 i 0), .int (sI σ 8 i 0), .int (sI σ 9 i 0)] 3 (.long v)) else cct cA ad n σ t' i' := by
  intro t' i' h
  match t', h with
  | 0, h => rw [if_neg (by omega)]; first | rfl | simp [cct, sI_wL, sL_wL, sR_wL]
  | 1, h => rw [if_neg (by omega)]; first | rfl | simp [cct, sI_wL, sL_wL, sR_wL]
  | 2, h => rw [if_neg (by omega)]; first | rfl | simp [cct, sI_wL, sL_wL, sR_wL]
  | 3, h => rw [if_neg (by omega)]; first | rfl | simp [cct, sI_wL, sL_wL, sR_wL]
  | 4, h => rw [if_neg (by omega)]; first | rfl | simp [cct, sI_wL, sL_wL, sR_wL]
  | 5, h => rw [if_neg (by omega)]; first | rfl | simp [cct, sI_wL, sL_wL, sR_wL]
  | 6, h => rw [if_neg (by omega)]; first | rfl | simp [cct, sI_wL, sL_wL, sR_wL]
  | 7, h => rw [if_neg (by omega)]; first | rfl | simp [cct, sI_wL, sL_wL, sR_wL]
  | 8, h =>
    by_cases hi : i' = i
    · subst hi
      rw [if_pos ⟨rfl, rfl⟩]
      first | rfl | (simp [cct, sI_wL, sL_wL, sR_wL]; done) | (simp [cct, sI_wL, sL_wL, sR_wL]; funext jj; by_cases hj : jj = j <;> simp [sI_wL, sL_wL, sR_wL, hj])
    · rw [if_neg (fun q => hi q.2)]
      first | rfl | (simp [cct, sI_wL, sL_wL, sR_wL, hi]; done)
theorem cc_wI7 {cA : Nat → ClassId} {ad : Nat → Nat → Nat} {n : Nat} {σ : St} {i : Nat} {v : Int32} : ∀ t' i', cdom n σ t' i' → cct cA ad n (wI σ 7 i 0 v) t' i' = if t' = 8 ∧ i' = i then .inr (1, List.set [.int (sI σ 4 i 0), .int (sI σ 5 i 0), .int (sI σ 6 i 0), .long (sL σ 6 i 0), .int (sI σ 7 i 0), .int (sI σ 8 i 0), .int (sI σ 9 i 0)] 4 (.int v)) else cct cA ad n σ t' i' := by
  intro t' i' h
  match t', h with
  | 0, h => rw [if_neg (by omega)]; first | rfl | simp [cct, sI_wI, sL_wI, sR_wI]
  | 1, h => rw [if_neg (by omega)]; first | rfl | simp [cct, sI_wI, sL_wI, sR_wI]
  | 2, h => rw [if_neg (by omega)]; first | rfl | simp [cct, sI_wI, sL_wI, sR_wI]
  | 3, h => rw [if_neg (by omega)]; first | rfl | simp [cct, sI_wI, sL_wI, sR_wI]
  | 4, h => rw [if_neg (by omega)]; first | rfl | simp [cct, sI_wI, sL_wI, sR_wI]
  | 5, h => rw [if_neg (by omega)]; first | rfl | simp [cct, sI_wI, sL_wI, sR_wI]
  | 6, h => rw [if_neg (by omega)]; first | rfl | simp [cct, sI_wI, sL_wI, sR_wI]
  | 7, h => rw [if_neg (by omega)]; first | rfl | simp [cct, sI_wI, sL_wI, sR_wI]
  | 8, h =>
    by_cases hi : i' = i
    · subst hi
      rw [if_pos ⟨rfl, rfl⟩]
      first | rfl | (simp [cct, sI_wI, sL_wI, sR_wI]; done) | (simp [cct, sI_wI, sL_wI, sR_wI]; funext jj; by_cases hj : jj = j <;> simp [sI_wI, sL_wI, sR_wI, hj])
    · rw [if_neg (fun q => hi q.2)]
      first | rfl | (simp [cct, sI_wI, sL_wI, sR_wI, hi]; done)
theorem cc_wI8 {cA : Nat → ClassId} {ad : Nat → Nat → Nat} {n : Nat} {σ : St} {i : Nat} {v : Int32} : ∀ t' i', cdom n σ t' i' → cct cA ad n (wI σ 8 i 0 v) t' i' = if t' = 8 ∧ i' = i then .inr (1, List.set [.int (sI σ 4 i 0), .int (sI σ 5 i 0), .int (sI σ 6 i 0), .long (sL σ 6 i 0), .int (sI σ 7 i 0), .int (sI σ 8 i 0), .int (sI σ 9 i 0)] 5 (.int v)) else cct cA ad n σ t' i' := by
  intro t' i' h
  match t', h with
  | 0, h => rw [if_neg (by omega)]; first | rfl | simp [cct, sI_wI, sL_wI, sR_wI]
  | 1, h => rw [if_neg (by omega)]; first | rfl | simp [cct, sI_wI, sL_wI, sR_wI]
  | 2, h => rw [if_neg (by omega)]; first | rfl | simp [cct, sI_wI, sL_wI, sR_wI]
  | 3, h => rw [if_neg (by omega)]; first | rfl | simp [cct, sI_wI, sL_wI, sR_wI]
  | 4, h => rw [if_neg (by omega)]; first | rfl | simp [cct, sI_wI, sL_wI, sR_wI]
  | 5, h => rw [if_neg (by omega)]; first | rfl | simp [cct, sI_wI, sL_wI, sR_wI]
  | 6, h => rw [if_neg (by omega)]; first | rfl | simp [cct, sI_wI, sL_wI, sR_wI]
  | 7, h => rw [if_neg (by omega)]; first | rfl | simp [cct, sI_wI, sL_wI, sR_wI]
  | 8, h =>
    by_cases hi : i' = i
    · subst hi
      rw [if_pos ⟨rfl, rfl⟩]
      first | rfl | (simp [cct, sI_wI, sL_wI, sR_wI]; done) | (simp [cct, sI_wI, sL_wI, sR_wI]; funext jj; by_cases hj : jj = j <;> simp [sI_wI, sL_wI, sR_wI, hj])
    · rw [if_neg (fun q => hi q.2)]
      first | rfl | (simp [cct, sI_wI, sL_wI, sR_wI, hi]; done)
theorem cc_wI9 {cA : Nat → ClassId} {ad : Nat → Nat → Nat} {n : Nat} {σ : St} {i : Nat} {v : Int32} : ∀ t' i', cdom n σ t' i' → cct cA ad n (wI σ 9 i 0 v) t' i' = if t' = 8 ∧ i' = i then .inr (1, List.set [.int (sI σ 4 i 0), .int (sI σ 5 i 0), .int (sI σ 6 i 0), .long (sL σ 6 i 0), .int (sI σ 7 i 0), .int (sI σ 8 i 0), .int (sI σ 9 i 0)] 6 (.int v)) else cct cA ad n σ t' i' := by
  intro t' i' h
  match t', h with
  | 0, h => rw [if_neg (by omega)]; first | rfl | simp [cct, sI_wI, sL_wI, sR_wI]
  | 1, h => rw [if_neg (by omega)]; first | rfl | simp [cct, sI_wI, sL_wI, sR_wI]
  | 2, h => rw [if_neg (by omega)]; first | rfl | simp [cct, sI_wI, sL_wI, sR_wI]
  | 3, h => rw [if_neg (by omega)]; first | rfl | simp [cct, sI_wI, sL_wI, sR_wI]
  | 4, h => rw [if_neg (by omega)]; first | rfl | simp [cct, sI_wI, sL_wI, sR_wI]
  | 5, h => rw [if_neg (by omega)]; first | rfl | simp [cct, sI_wI, sL_wI, sR_wI]
  | 6, h => rw [if_neg (by omega)]; first | rfl | simp [cct, sI_wI, sL_wI, sR_wI]
  | 7, h => rw [if_neg (by omega)]; first | rfl | simp [cct, sI_wI, sL_wI, sR_wI]
  | 8, h =>
    by_cases hi : i' = i
    · subst hi
      rw [if_pos ⟨rfl, rfl⟩]
      first | rfl | (simp [cct, sI_wI, sL_wI, sR_wI]; done) | (simp [cct, sI_wI, sL_wI, sR_wI]; funext jj; by_cases hj : jj = j <;> simp [sI_wI, sL_wI, sR_wI, hj])
    · rw [if_neg (fun q => hi q.2)]
      first | rfl | (simp [cct, sI_wI, sL_wI, sR_wI, hi]; done)
