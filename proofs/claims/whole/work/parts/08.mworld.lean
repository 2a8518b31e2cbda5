def mdom (n : Nat) (σ : St) (t i : Nat) : Prop := match t with
  | 0 => i = 0
  | 1 => i = 0
  | 2 => i = 0
  | 3 => i = 0
  | 4 => i = 0
  | 5 => i = 0
  | 6 => i = 0
  | 7 => i = 0
  | 8 => i = 0
  | 9 => i = 0
  | 10 => i = 0
  | 11 => i = 0
  | 12 => i = 0
  | 13 => i = 0
  | 14 => i = 0
  | 15 => i = 0
  | 16 => i = 0
  | 17 => i = 0
  | _ => False
def mct (cA : Nat → ClassId) (ad : Nat → Nat → Nat) (n : Nat) (σ : St) (t i : Nat) : va_E := match t with
  | 0 => .inr (3, [.int (sI σ 0 i 0), .int (sI σ 1 i 0), .long (sL σ 0 i 0), .ref (ad 1 0), .ref (ad 2 0), .ref (ad 3 0), .ref (ad 4 0), .ref (ad 5 0), .int (sI σ 2 i 0), .int (sI σ 3 i 0), .ref (ad 6 0), .ref (ad 7 0), .ref (ad 8 0), .ref (ad 9 0), .ref (ad 10 0), .ref (ad 11 0), .ref (ad 12 0), .ref (ad 13 0), .ref (ad 14 0), .ref (ad 15 0), .ref (ad 16 0), .ref (ad 17 0)])
  | 1 => .inl (cA 0, 4, .inr (.inl (fun j => sL σ 1 i j)))
  | 2 => .inl (cA 0, 4, .inr (.inl (fun j => sL σ 2 i j)))
  | 3 => .inl (cA 0, 4, .inr (.inl (fun j => sL σ 3 i j)))
  | 4 => .inl (cA 0, 16, .inr (.inl (fun j => sL σ 4 i j)))
  | 5 => .inl (cA 0, 16, .inr (.inl (fun j => sL σ 5 i j)))
  | 6 => .inl (cA 1, 100, .inl (fun j => sI σ 4 i j))
  | 7 => .inl (cA 1, 100, .inl (fun j => sI σ 5 i j))
  | 8 => .inl (cA 0, 100, .inr (.inl (fun j => sL σ 6 i j)))
  | 9 => .inl (cA 1, 100, .inl (fun j => sI σ 6 i j))
  | 10 => .inl (cA 1, 100, .inl (fun j => sI σ 7 i j))
  | 11 => .inl (cA 1, 100, .inl (fun j => sI σ 8 i j))
  | 12 => .inl (cA 1, 100, .inl (fun j => sI σ 9 i j))
  | 13 => .inl (cA 1, 24, .inl (fun j => sI σ 10 i j))
  | 14 => .inl (cA 1, 4, .inl (fun j => sI σ 11 i j))
  | 15 => .inl (cA 0, 4, .inr (.inl (fun j => sL σ 7 i j)))
  | 16 => .inl (cA 0, 16, .inr (.inl (fun j => sL σ 8 i j)))
  | 17 => .inl (cA 1, 4, .inl (fun j => sI σ 12 i j))
  | _ => .inr (0, [])
def MW (D : va_G) (cA : Nat → ClassId) (ad : Nat → Nat → Nat) (n : Nat) (A : Nat → Prop) (σ : St) (H : Heap) : Prop := kw D vCl ad (mdom n σ) (mct cA ad n σ) H ∧ ∀ t i, mdom n σ t i → A (ad t i)
theorem MW.wI {D : va_G} {cA : Nat → ClassId} {ad : Nat → Nat → Nat} {n : Nat} {A : Nat → Prop} {σ : St} {H : Heap} {c i : Nat} {j : Nat} {v : Int32} (h : kw D vCl ad (mdom n σ) (mct cA ad n (wI σ c i j v)) H) (hA : ∀ t i, mdom n σ t i → A (ad t i)) : MW D cA ad n A (wI σ c i j v) H := ⟨h, hA⟩
theorem MW.wL {D : va_G} {cA : Nat → ClassId} {ad : Nat → Nat → Nat} {n : Nat} {A : Nat → Prop} {σ : St} {H : Heap} {c i : Nat} {j : Nat} {v : Int64} (h : kw D vCl ad (mdom n σ) (mct cA ad n (wL σ c i j v)) H) (hA : ∀ t i, mdom n σ t i → A (ad t i)) : MW D cA ad n A (wL σ c i j v) H := ⟨h, hA⟩
theorem MW.wR {D : va_G} {cA : Nat → ClassId} {ad : Nat → Nat → Nat} {n : Nat} {A : Nat → Prop} {σ : St} {H : Heap} {c i : Nat} {j : Nat} {v : Option Nat} (h : kw D vCl ad (mdom n σ) (mct cA ad n (wR σ c i j v)) H) (hA : ∀ t i, mdom n σ t i → A (ad t i)) : MW D cA ad n A (wR σ c i j v) H := ⟨h, hA⟩
theorem MW.fI {D : va_G} {cA : Nat → ClassId} {ad : Nat → Nat → Nat} {n : Nat} {A : Nat → Prop} {σ : St} {H : Heap} {c i : Nat} {v : Int32} (h : kw D vCl ad (mdom n σ) (mct cA ad n (fI σ c i v)) H) (hA : ∀ t i, mdom n σ t i → A (ad t i)) : MW D cA ad n A (fI σ c i v) H := ⟨h, hA⟩
theorem MW.fL {D : va_G} {cA : Nat → ClassId} {ad : Nat → Nat → Nat} {n : Nat} {A : Nat → Prop} {σ : St} {H : Heap} {c i : Nat} {v : Int64} (h : kw D vCl ad (mdom n σ) (mct cA ad n (fL σ c i v)) H) (hA : ∀ t i, mdom n σ t i → A (ad t i)) : MW D cA ad n A (fL σ c i v) H := ⟨h, hA⟩
theorem mm_wI0 {cA : Nat → ClassId} {ad : Nat → Nat → Nat} {n : Nat} {σ : St} {v : Int32} : ∀ t' i', mdom n σ t' i' → mct cA ad n (wI σ 0 0 0 v) t' i' = if t' = 0 ∧ i' = 0 then .inr (3, List.set [.int (sI σ 0 0 0), .int (sI σ 1 0 0), .long (sL σ 0 0 0), .ref (ad 1 0), .ref (ad 2 0), .ref (ad 3 0), .ref (ad 4 0), .ref (ad 5 0), .int (sI σ 2 0 0), .int (sI σ 3 0 0), .ref (ad 6 0), .ref (ad 7 0), .ref (ad 8 0), .ref (ad 9 0), .ref (ad 10 0), .ref (ad 11 0), .ref (ad 12 0), .ref (ad 13 0), .ref (ad 14 0), .ref (ad 15 0), .ref (ad 16 0), .ref (ad 17 0)] 0 (.int v)) else mct cA ad n σ t' i' := by
  intro t' i' h
  match t', h with
  | 0, h =>
    have h : i' = 0 := h
    subst h
    rw [if_pos ⟨rfl, rfl⟩]
    first | rfl | (simp [mct, sI_wI, sL_wI, sR_wI]; done) | (simp [mct, sI_wI, sL_wI, sR_wI]; funext jj; by_cases hj : jj = j <;> simp [sI_wI, sL_wI, sR_wI, hj])
  | 1, h => rw [if_neg (by omega)]; first | rfl | simp [mct, sI_wI, sL_wI, sR_wI]
  | 2, h => rw [if_neg (by omega)]; first | rfl | simp [mct, sI_wI, sL_wI, sR_wI]
  | 3, h => rw [if_neg (by omega)]; first | rfl | simp [mct, sI_wI, sL_wI, sR_wI]
  | 4, h => rw [if_neg (by omega)]; first | rfl | simp [mct, sI_wI, sL_wI, sR_wI]
  | 5, h => rw [if_neg (by omega)]; first | rfl | simp [mct, sI_wI, sL_wI, sR_wI]
  | 6, h => rw [if_neg (by omega)]; first | rfl | simp [mct, sI_wI, sL_wI, sR_wI]
  | 7, h => rw [if_neg (by omega)]; first | rfl | simp [mct, sI_wI, sL_wI, sR_wI]
  | 8, h => rw [if_neg (by omega)]; first | rfl | simp [mct, sI_wI, sL_wI, sR_wI]
  | 9, h => rw [if_neg (by omega)]; first | rfl | simp [mct, sI_wI, sL_wI, sR_wI]
  | 10, h => rw [if_neg (by omega)]; first | rfl | simp [mct, sI_wI, sL_wI, sR_wI]
  | 11, h => rw [if_neg (by omega)]; first | rfl | simp [mct, sI_wI, sL_wI, sR_wI]
  | 12, h => rw [if_neg (by omega)]; first | rfl | simp [mct, sI_wI, sL_wI, sR_wI]
  | 13, h => rw [if_neg (by omega)]; first | rfl | simp [mct, sI_wI, sL_wI, sR_wI]
  | 14, h => rw [if_neg (by omega)]; first | rfl | simp [mct, sI_wI, sL_wI, sR_wI]
  | 15, h => rw [if_neg (by omega)]; first | rfl | simp [mct, sI_wI, sL_wI, sR_wI]
  | 16, h => rw [if_neg (by omega)]; first | rfl | simp [mct, sI_wI, sL_wI, sR_wI]
  | 17, h => rw [if_neg (by omega)]; first | rfl | simp [mct, sI_wI, sL_wI, sR_wI]
theorem mm_wI1 {cA : Nat → ClassId} {ad : Nat → Nat → Nat} {n : Nat} {σ : St} {v : Int32} : ∀ t' i', mdom n σ t' i' → mct cA ad n (wI σ 1 0 0 v) t' i' = if t' = 0 ∧ i' = 0 then .inr (3, List.set [.int (sI σ 0 0 0), .int (sI σ 1 0 0), .long (sL σ 0 0 0), .ref (ad 1 0), .ref (ad 2 0), .ref (ad 3 0), .ref (ad 4 0), .ref (ad 5 0), .int (sI σ 2 0 0), .int (sI σ 3 0 0), .ref (ad 6 0), .ref (ad 7 0), .ref (ad 8 0), .ref (ad 9 0), .ref (ad 10 0), .ref (ad 11 0), .ref (ad 12 0), .ref (ad 13 0), .ref (ad 14 0), .ref (ad 15 0), .ref (ad 16 0), .ref (ad 17 0)] 1 (.int v)) else mct cA ad n σ t' i' := by
  intro t' i' h
  match t', h with
  | 0, h =>
    have h : i' = 0 := h
    subst h
    rw [if_pos ⟨rfl, rfl⟩]
    first | rfl | (simp [mct, sI_wI, sL_wI, sR_wI]; done) | (simp [mct, sI_wI, sL_wI, sR_wI]; funext jj; by_cases hj : jj = j <;> simp [sI_wI, sL_wI, sR_wI, hj])
  | 1, h => rw [if_neg (by omega)]; first | rfl | simp [mct, sI_wI, sL_wI, sR_wI]
  | 2, h => rw [if_neg (by omega)]; first | rfl | simp [mct, sI_wI, sL_wI, sR_wI]
  | 3, h => rw [if_neg (by omega)]; first | rfl | simp [mct, sI_wI, sL_wI, sR_wI]
  | 4, h => rw [if_neg (by omega)]; first | rfl | simp [mct, sI_wI, sL_wI, sR_wI]
  | 5, h => rw [if_neg (by omega)]; first | rfl | simp [mct, sI_wI, sL_wI, sR_wI]
  | 6, h => rw [if_neg (by omega)]; first | rfl | simp [mct, sI_wI, sL_wI, sR_wI]
  | 7, h => rw [if_neg (by omega)]; first | rfl | simp [mct, sI_wI, sL_wI, sR_wI]
  | 8, h => rw [if_neg (by omega)]; first | rfl | simp [mct, sI_wI, sL_wI, sR_wI]
  | 9, h => rw [if_neg (by omega)]; first | rfl | simp [mct, sI_wI, sL_wI, sR_wI]
  | 10, h => rw [if_neg (by omega)]; first | rfl | simp [mct, sI_wI, sL_wI, sR_wI]
  | 11, h => rw [if_neg (by omega)]; first | rfl | simp [mct, sI_wI, sL_wI, sR_wI]
  | 12, h => rw [if_neg (by omega)]; first | rfl | simp [mct, sI_wI, sL_wI, sR_wI]
  | 13, h => rw [if_neg (by omega)]; first | rfl | simp [mct, sI_wI, sL_wI, sR_wI]
  | 14, h => rw [if_neg (by omega)]; first | rfl | simp [mct, sI_wI, sL_wI, sR_wI]
  | 15, h => rw [if_neg (by omega)]; first | rfl | simp [mct, sI_wI, sL_wI, sR_wI]
  | 16, h => rw [if_neg (by omega)]; first | rfl | simp [mct, sI_wI, sL_wI, sR_wI]
  | 17, h => rw [if_neg (by omega)]; first | rfl | simp [mct, sI_wI, sL_wI, sR_wI]
theorem mm_wL0 {cA : Nat → ClassId} {ad : Nat → Nat → Nat} {n : Nat} {σ : St} {v : Int64} : ∀ t' i', mdom n σ t' i' → mct cA ad n (wL σ 0 0 0 v) t' i' = if t' = 0 ∧ i' = 0 then .inr (3, List.set [.int (sI σ 0 0 0), .int (sI σ 1 0 0), .long (sL σ 0 0 0), .ref (ad 1 0), .ref (ad 2 0), .ref (ad 3 0), .ref (ad 4 0), .ref (ad 5 0), .int (sI σ 2 0 0), .int (sI σ 3 0 0), .ref (ad 6 0), .ref (ad 7 0), .ref (ad 8 0), .ref (ad 9 0), .ref (ad 10 0), .ref (ad 11 0), .ref (ad 12 0), .ref (ad 13 0), .ref (ad 14 0), .ref (ad 15 0), .ref (ad 16 0), .ref (ad 17 0)] 2 (.long v)) else mct cA ad n σ t' i' := by
  intro t' i' h
  match t', h with
  | 0, h =>
    have h : i' = 0 := h
    subst h
    rw [if_pos ⟨rfl, rfl⟩]
    first | rfl | (simp [mct, sI_wL, sL_wL, sR_wL]; done) | (simp [mct, sI_wL, sL_wL, sR_wL]; funext jj; by_cases hj : jj = j <;> simp [sI_wL, sL_wL, sR_wL, hj])
  | 1, h => rw [if_neg (by omega)]; first | rfl | simp [mct, sI_wL, sL_wL, sR_wL]
  | 2, h => rw [if_neg (by omega)]; first | rfl | simp [mct, sI_wL, sL_wL, sR_wL]
  | 3, h => rw [if_neg (by omega)]; first | rfl | simp [mct, sI_wL, sL_wL, sR_wL]
  | 4, h => rw [if_neg (by omega)]; first | rfl | simp [mct, sI_wL, sL_wL, sR_wL]
  | 5, h => rw [if_neg (by omega)]; first | rfl | simp [mct, sI_wL, sL_wL, sR_wL]
  | 6, h => rw [if_neg (by omega)]; first | rfl | simp [mct, sI_wL, sL_wL, sR_wL]
  | 7, h => rw [if_neg (by omega)]; first | rfl | simp [mct, sI_wL, sL_wL, sR_wL]
  | 8, h => rw [if_neg (by omega)]; first | rfl | simp [mct, sI_wL, sL_wL, sR_wL]
  | 9, h => rw [if_neg (by omega)]; first | rfl | simp [mct, sI_wL, sL_wL, sR_wL]
  | 10, h => rw [if_neg (by omega)]; first | rfl | simp [mct, sI_wL, sL_wL, sR_wL]
  | 11, h => rw [if_neg (by omega)]; first | rfl | simp [mct, sI_wL, sL_wL, sR_wL]
  | 12, h => rw [if_neg (by omega)]; first | rfl | simp [mct, sI_wL, sL_wL, sR_wL]
  | 13, h => rw [if_neg (by omega)]; first | rfl | simp [mct, sI_wL, sL_wL, sR_wL]
  | 14, h => rw [if_neg (by omega)]; first | rfl | simp [mct, sI_wL, sL_wL, sR_wL]
  | 15, h => rw [if_neg (by omega)]; first | rfl | simp [mct, sI_wL, sL_wL, sR_wL]
  | 16, h => rw [if_neg (by omega)]; first | rfl | simp [mct, sI_wL, sL_wL, sR_wL]
  | 17, h => rw [if_neg (by omega)]; first | rfl | simp [mct, sI_wL, sL_wL, sR_wL]
theorem mm_wI2 {cA : Nat → ClassId} {ad : Nat → Nat → Nat} {n : Nat} {σ : St} {v : Int32} : ∀ t' i', mdom n σ t' i' → mct cA ad n (wI σ 2 0 0 v) t' i' = if t' = 0 ∧ i' = 0 then .inr (3, List.set [.int (sI σ 0 0 0), .int (sI σ 1 0 0), .long (sL σ 0 0 0), .ref (ad 1 0), .ref (ad 2 0), .ref (ad 3 0), .ref (ad 4 0), .ref (ad 5 0), .int (sI σ 2 0 0), .int (sI σ 3 0 0), .ref (ad 6 0), .ref (ad 7 0), .ref (ad 8 0), .ref (ad 9 0), .ref (ad 10 0), .ref (ad 11 0), .ref (ad 12 0), .ref (ad 13 0), .ref (ad 14 0), .ref (ad 15 0), .ref (ad 16 0), .ref (ad 17 0)] 8 (.int v)) else mct cA ad n σ t' i' := by
  intro t' i' h
  match t', h with
  | 0, h =>
    have h : i' = 0 := h
    subst h
    rw [if_pos ⟨rfl, rfl⟩]
    first | rfl | (simp [mct, sI_wI, sL_wI, sR_wI]; done) | (simp [mct, sI_wI, sL_wI, sR_wI]; funext jj; by_cases hj : jj = j <;> simp [sI_wI, sL_wI, sR_wI, hj])
  | 1, h => rw [if_neg (by omega)]; first | rfl | simp [mct, sI_wI, sL_wI, sR_wI]
  | 2, h => rw [if_neg (by omega)]; first | rfl | simp [mct, sI_wI, sL_wI, sR_wI]
  | 3, h => rw [if_neg (by omega)]; first | rfl | simp [mct, sI_wI, sL_wI, sR_wI]
  | 4, h => rw [if_neg (by omega)]; first | rfl | simp [mct, sI_wI, sL_wI, sR_wI]
  | 5, h => rw [if_neg (by omega)]; first | rfl | simp [mct, sI_wI, sL_wI, sR_wI]
  | 6, h => rw [if_neg (by omega)]; first | rfl | simp [mct, sI_wI, sL_wI, sR_wI]
  | 7, h => rw [if_neg (by omega)]; first | rfl | simp [mct, sI_wI, sL_wI, sR_wI]
  | 8, h => rw [if_neg (by omega)]; first | rfl | simp [mct, sI_wI, sL_wI, sR_wI]
  | 9, h => rw [if_neg (by omega)]; first | rfl | simp [mct, sI_wI, sL_wI, sR_wI]
  | 10, h => rw [if_neg (by omega)]; first | rfl | simp [mct, sI_wI, sL_wI, sR_wI]
  | 11, h => rw [if_neg (by omega)]; first | rfl | simp [mct, sI_wI, sL_wI, sR_wI]
  | 12, h => rw [if_neg (by omega)]; first | rfl | simp [mct, sI_wI, sL_wI, sR_wI]
  | 13, h => rw [if_neg (by omega)]; first | rfl | simp [mct, sI_wI, sL_wI, sR_wI]
  | 14, h => rw [if_neg (by omega)]; first | rfl | simp [mct, sI_wI, sL_wI, sR_wI]
  | 15, h => rw [if_neg (by omega)]; first | rfl | simp [mct, sI_wI, sL_wI, sR_wI]
  | 16, h => rw [if_neg (by omega)]; first | rfl | simp [mct, sI_wI, sL_wI, sR_wI]
  | 17, h => rw [if_neg (by omega)]; first | rfl | simp [mct, sI_wI, sL_wI, sR_wI]
theorem mm_wI3 {cA : Nat → ClassId} {ad : Nat → Nat → Nat} {n : Nat} {σ : St} {v : Int32} : ∀ t' i', mdom n σ t' i' → mct cA ad n (wI σ 3 0 0 v) t' i' = if t' = 0 ∧ i' = 0 then .inr (3, List.set [.int (sI σ 0 0 0), .int (sI σ 1 0 0), .long (sL σ 0 0 0), .ref (ad 1 0), .ref (ad 2 0), .ref (ad 3 0), .ref (ad 4 0), .ref (ad 5 0), .int (sI σ 2 0 0), .int (sI σ 3 0 0), .ref (ad 6 0), .ref (ad 7 0), .ref (ad 8 0), .ref (ad 9 0), .ref (ad 10 0), .ref (ad 11 0), .ref (ad 12 0), .ref (ad 13 0), .ref (ad 14 0), .ref (ad 15 0), .ref (ad 16 0), .ref (ad 17 0)] 9 (.int v)) else mct cA ad n σ t' i' := by
  intro t' i' h
  match t', h with
  | 0, h =>
    have h : i' = 0 := h
    subst h
    rw [if_pos ⟨rfl, rfl⟩]
    first | rfl | (simp [mct, sI_wI, sL_wI, sR_wI]; done) | (simp [mct, sI_wI, sL_wI, sR_wI]; funext jj; by_cases hj : jj = j <;> simp [sI_wI, sL_wI, sR_wI, hj])
  | 1, h => rw [if_neg (by omega)]; first | rfl | simp [mct, sI_wI, sL_wI, sR_wI]
  | 2, h => rw [if_neg (by omega)]; first | rfl | simp [mct, sI_wI, sL_wI, sR_wI]
  | 3, h => rw [if_neg (by omega)]; first | rfl | simp [mct, sI_wI, sL_wI, sR_wI]
  | 4, h => rw [if_neg (by omega)]; first | rfl | simp [mct, sI_wI, sL_wI, sR_wI]
  | 5, h => rw [if_neg (by omega)]; first | rfl | simp [mct, sI_wI, sL_wI, sR_wI]
  | 6, h => rw [if_neg (by omega)]; first | rfl | simp [mct, sI_wI, sL_wI, sR_wI]
  | 7, h => rw [if_neg (by omega)]; first | rfl | simp [mct, sI_wI, sL_wI, sR_wI]
  | 8, h => rw [if_neg (by omega)]; first | rfl | simp [mct, sI_wI, sL_wI, sR_wI]
  | 9, h => rw [if_neg (by omega)]; first | rfl | simp [mct, sI_wI, sL_wI, sR_wI]
  | 10, h => rw [if_neg (by omega)]; first | rfl | simp [mct, sI_wI, sL_wI, sR_wI]
  | 11, h => rw [if_neg (by omega)]; first | rfl | simp [mct, sI_wI, sL_wI, sR_wI]
  | 12, h => rw [if_neg (by omega)]; first | rfl | simp [mct, sI_wI, sL_wI, sR_wI]
  | 13, h => rw [if_neg (by omega)]; first | rfl | simp [mct, sI_wI, sL_wI, sR_wI]
  | 14, h => rw [if_neg (by omega)]; first | rfl | simp [mct, sI_wI, sL_wI, sR_wI]
  | 15, h => rw [if_neg (by omega)]; first | rfl | simp [mct, sI_wI, sL_wI, sR_wI]
  | 16, h => rw [if_neg (by omega)]; first | rfl | simp [mct, sI_wI, sL_wI, sR_wI]
  | 17, h => rw [if_neg (by omega)]; first | rfl | simp [mct, sI_wI, sL_wI, sR_wI]
theorem mm_wL1 {cA : Nat → ClassId} {ad : Nat → Nat → Nat} {n : Nat} {σ : St} {j : Nat} {v : Int64} : ∀ t' i', mdom n σ t' i' → mct cA ad n (wL σ 1 0 j v) t' i' = if t' = 1 ∧ i' = 0 then .inl (cA 0, 4, .inr (.inl (vp_updL (fun j => sL σ 1 0 j) j v))) else mct cA ad n σ t' i' := by
  intro t' i' h
  match t', h with
  | 0, h => rw [if_neg (by omega)]; first | rfl | simp [mct, sI_wL, sL_wL, sR_wL, vp_updL]
  | 1, h =>
    have h : i' = 0 := h
    subst h
    rw [if_pos ⟨rfl, rfl⟩]
    first | rfl | (simp [mct, sI_wL, sL_wL, sR_wL, vp_updL]; done) | (simp [mct, sI_wL, sL_wL, sR_wL, vp_updL]; funext jj; by_cases hj : jj = j <;> simp [sI_wL, sL_wL, sR_wL, vp_updL, hj])
  | 2, h => rw [if_neg (by omega)]; first | rfl | simp [mct, sI_wL, sL_wL, sR_wL, vp_updL]
  | 3, h => rw [if_neg (by omega)]; first | rfl | simp [mct, sI_wL, sL_wL, sR_wL, vp_updL]
  | 4, h => rw [if_neg (by omega)]; first | rfl | simp [mct, sI_wL, sL_wL, sR_wL, vp_updL]
  | 5, h => rw [if_neg (by omega)]; first | rfl | simp [mct, sI_wL, sL_wL, sR_wL, vp_updL]
  | 6, h => rw [if_neg (by omega)]; first | rfl | simp [mct, sI_wL, sL_wL, sR_wL, vp_updL]
  | 7, h => rw [if_neg (by omega)]; first | rfl | simp [mct, sI_wL, sL_wL, sR_wL, vp_updL]
  | 8, h => rw [if_neg (by omega)]; first | rfl | simp [mct, sI_wL, sL_wL, sR_wL, vp_updL]
  | 9, h => rw [if_neg (by omega)]; first | rfl | simp [mct, sI_wL, sL_wL, sR_wL, vp_updL]
  | 10, h => rw [if_neg (by omega)]; first | rfl | simp [mct, sI_wL, sL_wL, sR_wL, vp_updL]
  | 11, h => rw [if_neg (by omega)]; first | rfl | simp [mct, sI_wL, sL_wL, sR_wL, vp_updL]
  | 12, h => rw [if_neg (by omega)]; first | rfl | simp [mct, sI_wL, sL_wL, sR_wL, vp_updL]
  | 13, h => rw [if_neg (by omega)]; first | rfl | simp [mct, sI_wL, sL_wL, sR_wL, vp_updL]
  | 14, h => rw [if_neg (by omega)]; first | rfl | simp [mct, sI_wL, sL_wL, sR_wL, vp_updL]
  | 15, h => rw [if_neg (by omega)]; first | rfl | simp [mct, sI_wL, sL_wL, sR_wL, vp_updL]
  | 16, h => rw [if_neg (by omega)]; first | rfl | simp [mct, sI_wL, sL_wL, sR_wL, vp_updL]
  | 17, h => rw [if_neg (by omega)]; first | rfl | simp [mct, sI_wL, sL_wL, sR_wL, vp_updL]
theorem mm_fL1 {cA : Nat → ClassId} {ad : Nat → Nat → Nat} {n : Nat} {σ : St} {v : Int64} : ∀ t' i', mdom n σ t' i' → mct cA ad n (fL σ 1 0 v) t' i' = if t' = 1 ∧ i' = 0 then .inl (cA 0, 4, .inr (.inl (fun _ => v))) else mct cA ad n σ t' i' := by
  intro t' i' h
  match t', h with
  | 0, h => rw [if_neg (by omega)]; first | rfl | simp [mct, sI_fL, sL_fL, sR_fL]
  | 1, h =>
    have h : i' = 0 := h
    subst h
    rw [if_pos ⟨rfl, rfl⟩]
    first | rfl | (simp [mct, sI_fL, sL_fL, sR_fL]; done) | (simp [mct, sI_fL, sL_fL, sR_fL]; funext jj; by_cases hj : jj = j <;> simp [sI_fL, sL_fL, sR_fL, hj])
  | 2, h => rw [if_neg (by omega)]; first | rfl | simp [mct, sI_fL, sL_fL, sR_fL]
  | 3, h => rw [if_neg (by omega)]; first | rfl | simp [mct, sI_fL, sL_fL, sR_fL]
  | 4, h => rw [if_neg (by omega)]; first | rfl | simp [mct, sI_fL, sL_fL, sR_fL]
  | 5, h => rw [if_neg (by omega)]; first | rfl | simp [mct, sI_fL, sL_fL, sR_fL]
  | 6, h => rw [if_neg (by omega)]; first | rfl | simp [mct, sI_fL, sL_fL, sR_fL]
  | 7, h => rw [if_neg (by omega)]; first | rfl | simp [mct, sI_fL, sL_fL, sR_fL]
  | 8, h => rw [if_neg (by omega)]; first | rfl | simp [mct, sI_fL, sL_fL, sR_fL]
  | 9, h => rw [if_neg (by omega)]; first | rfl | simp [mct, sI_fL, sL_fL, sR_fL]
  | 10, h => rw [if_neg (by omega)]; first | rfl | simp [mct, sI_fL, sL_fL, sR_fL]
  | 11, h => rw [if_neg (by omega)]; first | rfl | simp [mct, sI_fL, sL_fL, sR_fL]
  | 12, h => rw [if_neg (by omega)]; first | rfl | simp [mct, sI_fL, sL_fL, sR_fL]
  | 13, h => rw [if_neg (by omega)]; first | rfl | simp [mct, sI_fL, sL_fL, sR_fL]
  | 14, h => rw [if_neg (by omega)]; first | rfl | simp [mct, sI_fL, sL_fL, sR_fL]
  | 15, h => rw [if_neg (by omega)]; first | rfl | simp [mct, sI_fL, sL_fL, sR_fL]
  | 16, h => rw [if_neg (by omega)]; first | rfl | simp [mct, sI_fL, sL_fL, sR_fL]
  | 17, h => rw [if_neg (by omega)]; first | rfl | simp [mct, sI_fL, sL_fL, sR_fL]
theorem mm_wL2 {cA : Nat → ClassId} {ad : Nat → Nat → Nat} {n : Nat} {σ : St} {j : Nat} {v : Int64} : ∀ t' i', mdom n σ t' i' → mct cA ad n (wL σ 2 0 j v) t' i' = if t' = 2 ∧ i' = 0 then .inl (cA 0, 4, .inr (.inl (vp_updL (fun j => sL σ 2 0 j) j v))) else mct cA ad n σ t' i' := by
  intro t' i' h
  match t', h with
  | 0, h => rw [if_neg (by omega)]; first | rfl | simp [mct, sI_wL, sL_wL, sR_wL, vp_updL]
  | 1, h => rw [if_neg (by omega)]; first | rfl | simp [mct, sI_wL, sL_wL, sR_wL, vp_updL]
  | 2, h =>
    have h : i' = 0 := h
    subst h
    rw [if_pos ⟨rfl, rfl⟩]
    first | rfl | (simp [mct, sI_wL, sL_wL, sR_wL, vp_updL]; done) | (simp [mct, sI_wL, sL_wL, sR_wL, vp_updL]; funext jj; by_cases hj : jj = j <;> simp [sI_wL, sL_wL, sR_wL, vp_updL, hj])
  | 3, h => rw [if_neg (by omega)]; first | rfl | simp [mct, sI_wL, sL_wL, sR_wL, vp_updL]
  | 4, h => rw [if_neg (by omega)]; first | rfl | simp [mct, sI_wL, sL_wL, sR_wL, vp_updL]
  | 5, h => rw [if_neg (by omega)]; first | rfl | simp [mct, sI_wL, sL_wL, sR_wL, vp_updL]
  | 6, h => rw [if_neg (by omega)]; first | rfl | simp [mct, sI_wL, sL_wL, sR_wL, vp_updL]
  | 7, h => rw [if_neg (by omega)]; first | rfl | simp [mct, sI_wL, sL_wL, sR_wL, vp_updL]
  | 8, h => rw [if_neg (by omega)]; first | rfl | simp [mct, sI_wL, sL_wL, sR_wL, vp_updL]
  | 9, h => rw [if_neg (by omega)]; first | rfl | simp [mct, sI_wL, sL_wL, sR_wL, vp_updL]
  | 10, h => rw [if_neg (by omega)]; first | rfl | simp [mct, sI_wL, sL_wL, sR_wL, vp_updL]
  | 11, h => rw [if_neg (by omega)]; first | rfl | simp [mct, sI_wL, sL_wL, sR_wL, vp_updL]
  | 12, h => rw [if_neg (by omega)]; first | rfl | simp [mct, sI_wL, sL_wL, sR_wL, vp_updL]
  | 13, h => rw [if_neg (by omega)]; first | rfl | simp [mct, sI_wL, sL_wL, sR_wL, vp_updL]
  | 14, h => rw [if_neg (by omega)]; first | rfl | simp [mct, sI_wL, sL_wL, sR_wL, vp_updL]
  | 15, h => rw [if_neg (by omega)]; first | rfl | simp [mct, sI_wL, sL_wL, sR_wL, vp_updL]
  | 16, h => rw [if_neg (by omega)]; first | rfl | simp [mct, sI_wL, sL_wL, sR_wL, vp_updL]
  | 17, h => rw [if_neg (by omega)]; first | rfl | simp [mct, sI_wL, sL_wL, sR_wL, vp_updL]
theorem mm_fL2 {cA : Nat → ClassId} {ad : Nat → Nat → Nat} {n : Nat} {σ : St} {v : Int64} : ∀ t' i', mdom n σ t' i' → mct cA ad n (fL σ 2 0 v) t' i' = if t' = 2 ∧ i' = 0 then .inl (cA 0, 4, .inr (.inl (fun _ => v))) else mct cA ad n σ t' i' := by
  intro t' i' h
  match t', h with
  | 0, h => rw [if_neg (by omega)]; first | rfl | simp [mct, sI_fL, sL_fL, sR_fL]
  | 1, h => rw [if_neg (by omega)]; first | rfl | simp [mct, sI_fL, sL_fL, sR_fL]
  | 2, h =>
    have h : i' = 0 := h
    subst h
    rw [if_pos ⟨rfl, rfl⟩]
    first | rfl | (simp [mct, sI_fL, sL_fL, sR_fL]; done) | (simp [mct, sI_fL, sL_fL, sR_fL]; funext jj; by_cases hj : jj = j <;> simp [sI_fL, sL_fL, sR_fL, hj])
  | 3, h => rw [if_neg (by omega)]; first | rfl | simp [mct, sI_fL, sL_fL, sR_fL]
  | 4, h => rw [if_neg (by omega)]; first | rfl | simp [mct, sI_fL, sL_fL, sR_fL]
  | 5, h => rw [if_neg (by omega)]; first | rfl | simp [mct, sI_fL, sL_fL, sR_fL]
  | 6, h => rw [if_neg (by omega)]; first | rfl | simp [mct, sI_fL, sL_fL, sR_fL]
  | 7, h => rw [if_neg (by omega)]; first | rfl | simp [mct, sI_fL, sL_fL, sR_fL]
  | 8, h => rw [if_neg (by omega)]; first | rfl | simp [mct, sI_fL, sL_fL, sR_fL]
  | 9, h => rw [if_neg (by omega)]; first | rfl | simp [mct, sI_fL, sL_fL, sR_fL]
  | 10, h => rw [if_neg (by omega)]; first | rfl | simp [mct, sI_fL, sL_fL, sR_fL]
  | 11, h => rw [if_neg (by omega)]; first | rfl | simp [mct, sI_fL, sL_fL, sR_fL]
  | 12, h => rw [if_neg (by omega)]; first | rfl | simp [mct, sI_fL, sL_fL, sR_fL]
  | 13, h => rw [if_neg (by omega)]; first | rfl | simp [mct, sI_fL, sL_fL, sR_fL]
  | 14, h => rw [if_neg (by omega)]; first | rfl | simp [mct, sI_fL, sL_fL, sR_fL]
  | 15, h => rw [if_neg (by omega)]; first | rfl | simp [mct, sI_fL, sL_fL, sR_fL]
  | 16, h => rw [if_neg (by omega)]; first | rfl | simp [mct, sI_fL, sL_fL, sR_fL]
  | 17, h => rw [if_neg (by omega)]; first | rfl | simp [mct, sI_fL, sL_fL, sR_fL]
theorem mm_wL3 {cA : Nat → ClassId} {ad : Nat → Nat → Nat} {n : Nat} {σ : St} {j : Nat} {v : Int64} : ∀ t' i', mdom n σ t' i' → mct cA ad n (wL σ 3 0 j v) t' i' = if t' = 3 ∧ i' = 0 then .inl (cA 0, 4, .inr (.inl (vp_updL (fun j => sL σ 3 0 j) j v))) else mct cA ad n σ t' i' := by
  intro t' i' h
  match t', h with
  | 0, h => rw [if_neg (by omega)]; first | rfl | simp [mct, sI_wL, sL_wL, sR_wL, vp_updL]
  | 1, h => rw [if_neg (by omega)]; first | rfl | simp [mct, sI_wL, sL_wL, sR_wL, vp_updL]
  | 2, h => rw [if_neg (by omega)]; first | rfl | simp [mct, sI_wL, sL_wL, sR_wL, vp_updL]
  | 3, h =>
    have h : i' = 0 := h
    subst h
    rw [if_pos ⟨rfl, rfl⟩]
    first | rfl | (simp [mct, sI_wL, sL_wL, sR_wL, vp_updL]; done) | (simp [mct, sI_wL, sL_wL, sR_wL, vp_updL]; funext jj; by_cases hj : jj = j <;> simp [sI_wL, sL_wL, sR_wL, vp_updL, hj])
  | 4, h => rw [if_neg (by omega)]; first | rfl | simp [mct, sI_wL, sL_wL, sR_wL, vp_updL]
  | 5, h => rw [if_neg (by omega)]; first | rfl | simp [mct, sI_wL, sL_wL, sR_wL, vp_updL]
  | 6, h => rw [if_neg (by omega)]; first | rfl | simp [mct, sI_wL, sL_wL, sR_wL, vp_updL]
  | 7, h => rw [if_neg (by omega)]; first | rfl | simp [mct, sI_wL, sL_wL, sR_wL, vp_updL]
  | 8, h => rw [if_neg (by omega)]; first | rfl | simp [mct, sI_wL, sL_wL, sR_wL, vp_updL]
  | 9, h => rw [if_neg (by omega)]; first | rfl | simp [mct, sI_wL, sL_wL, sR_wL, vp_updL]
  | 10, h => rw [if_neg (by omega)]; first | rfl | simp [mct, sI_wL, sL_wL, sR_wL, vp_updL]
  | 11, h => rw [if_neg (by omega)]; first | rfl | simp [mct, sI_wL, sL_wL, sR_wL, vp_updL]
  | 12, h => rw [if_neg (by omega)]; first | rfl | simp [mct, sI_wL, sL_wL, sR_wL, vp_updL]
  | 13, h => rw [if_neg (by omega)]; first | rfl | simp [mct, sI_wL, sL_wL, sR_wL, vp_updL]
  | 14, h => rw [if_neg (by omega)]; first | rfl | simp [mct, sI_wL, sL_wL, sR_wL, vp_updL]
  | 15, h => rw [if_neg (by omega)]; first | rfl | simp [mct, sI_wL, sL_wL, sR_wL, vp_updL]
  | 16, h => rw [if_neg (by omega)]; first | rfl | simp [mct, sI_wL, sL_wL, sR_wL, vp_updL]
  | 17, h => rw [if_neg (by omega)]; first | rfl | simp [mct, sI_wL, sL_wL, sR_wL, vp_updL]
theorem mm_fL3 {cA : Nat → ClassId} {ad : Nat → Nat → Nat} {n : Nat} {σ : St} {v : Int64} : ∀ t' i', mdom n σ t' i' → mct cA ad n (fL σ 3 0 v) t' i' = if t' = 3 ∧ i' = 0 then .inl (cA 0, 4, .inr (.inl (fun _ => v))) else mct cA ad n σ t' i' := by
  intro t' i' h
  match t', h with
  | 0, h => rw [if_neg (by omega)]; first | rfl | simp [mct, sI_fL, sL_fL, sR_fL]
  | 1, h => rw [if_neg (by omega)]; first | rfl | simp [mct, sI_fL, sL_fL, sR_fL]
  | 2, h => rw [if_neg (by omega)]; first | rfl | simp [mct, sI_fL, sL_fL, sR_fL]
  | 3, h =>
    have h : i' = 0 := h
    subst h
    rw [if_pos ⟨rfl, rfl⟩]
    first | rfl | (simp [mct, sI_fL, sL_fL, sR_fL]; done) | (simp [mct, sI_fL, sL_fL, sR_fL]; funext jj; by_cases hj : jj = j <;> simp [sI_fL, sL_fL, sR_fL, hj])
  | 4, h => rw [if_neg (by omega)]; first | rfl | simp [mct, sI_fL, sL_fL, sR_fL]
  | 5, h => rw [if_neg (by omega)]; first | rfl | simp [mct, sI_fL, sL_fL, sR_fL]
  | 6, h => rw [if_neg (by omega)]; first | rfl | simp [mct, sI_fL, sL_fL, sR_fL]
  | 7, h => rw [if_neg (by omega)]; first | rfl | simp [mct, sI_fL, sL_fL, sR_fL]
  | 8, h => rw [if_neg (by omega)]; first | rfl | simp [mct, sI_fL, sL_fL, sR_fL]
  | 9, h => rw [if_neg (by omega)]; first | rfl | simp [mct, sI_fL, sL_fL, sR_fL]
  | 10, h => rw [if_neg (by omega)]; first | rfl | simp [mct, sI_fL, sL_fL, sR_fL]
  | 11, h => rw [if_neg (by omega)]; first | rfl | simp [mct, sI_fL, sL_fL, sR_fL]
  | 12, h => rw [if_neg (by omega)]; first | rfl | simp [mct, sI_fL, sL_fL, sR_fL]
  | 13, h => rw [if_neg (by omega)]; first | rfl | simp [mct, sI_fL, sL_fL, sR_fL]
  | 14, h => rw [if_neg (by omega)]; first | rfl | simp [mct, sI_fL, sL_fL, sR_fL]
  | 15, h => rw [if_neg (by omega)]; first | rfl | simp [mct, sI_fL, sL_fL, sR_fL]
  | 16, h => rw [if_neg (by omega)]; first | rfl | simp [mct, sI_fL, sL_fL, sR_fL]
  | 17, h => rw [if_neg (by omega)]; first | rfl | simp [mct, sI_fL, sL_fL, sR_fL]
theorem mm_wL4 {cA : Nat → ClassId} {ad : Nat → Nat → Nat} {n : Nat} {σ : St} {j : Nat} {v : Int64} : ∀ t' i', mdom n σ t' i' → mct cA ad n (wL σ 4 0 j v) t' i' = if t' = 4 ∧ i' = 0 then .inl (cA 0, 16, .inr (.inl (vp_updL (fun j => sL σ 4 0 j) j v))) else mct cA ad n σ t' i' := by
  intro t' i' h
  match t', h with
  | 0, h => rw [if_neg (by omega)]; first | rfl | simp [mct, sI_wL, sL_wL, sR_wL, vp_updL]
  | 1, h => rw [if_neg (by omega)]; first | rfl | simp [mct, sI_wL, sL_wL, sR_wL, vp_updL]
  | 2, h => rw [if_neg (by omega)]; first | rfl | simp [mct, sI_wL, sL_wL, sR_wL, vp_updL]
  | 3, h => rw [if_neg (by omega)]; first | rfl | simp [mct, sI_wL, sL_wL, sR_wL, vp_updL]
  | 4, h =>
    have h : i' = 0 := h
    subst h
    rw [if_pos ⟨rfl, rfl⟩]
    first | rfl | (simp [mct, sI_wL, sL_wL, sR_wL, vp_updL]; done) | (simp [mct, sI_wL, sL_wL, sR_wL, vp_updL]; funext jj; by_cases hj : jj = j <;> simp [sI_wL, sL_wL, sR_wL, vp_updL, hj])
  | 5, h => rw [if_neg (by omega)]; first | rfl | simp [mct, sI_wL, sL_wL, sR_wL, vp_updL]
  | 6, h => rw [if_neg (by omega)]; first | rfl | simp [mct, sI_wL, sL_wL, sR_wL, vp_updL]
  | 7, h => rw [if_neg (by omega)]; first | rfl | simp [mct, sI_wL, sL_wL, sR_wL, vp_updL]
  | 8, h => rw [if_neg (by omega)]; first | rfl | simp [mct, sI_wL, sL_wL, sR_wL, vp_updL]
  | 9, h => rw [if_neg (by omega)]; first | rfl | simp [mct, sI_wL, sL_wL, sR_wL, vp_updL]
  | 10, h => rw [if_neg (by omega)]; first | rfl | simp [mct, sI_wL, sL_wL, sR_wL, vp_updL]
  | 11, h => rw [if_neg (by omega)]; first | rfl | simp [mct, sI_wL, sL_wL, sR_wL, vp_updL]
  | 12, h => rw [if_neg (by omega)]; first | rfl | simp [mct, sI_wL, sL_wL, sR_wL, vp_updL]
  | 13, h => rw [if_neg (by omega)]; first | rfl | simp [mct, sI_wL, sL_wL, sR_wL, vp_updL]
  | 14, h => rw [if_neg (by omega)]; first | rfl | simp [mct, sI_wL, sL_wL, sR_wL, vp_updL]
  | 15, h => rw [if_neg (by omega)]; first | rfl | simp [mct, sI_wL, sL_wL, sR_wL, vp_updL]
  | 16, h => rw [if_neg (by omega)]; first | rfl | simp [mct, sI_wL, sL_wL, sR_wL, vp_updL]
  | 17, h => rw [if_neg (by omega)]; first | rfl | simp [mct, sI_wL, sL_wL, sR_wL, vp_updL]
theorem mm_fL4 {cA : Nat → ClassId} {ad : Nat → Nat → Nat} {n : Nat} {σ : St} {v : Int64} : ∀ t' i', mdom n σ t' i' → mct cA ad n (fL σ 4 0 v) t' i' = if t' = 4 ∧ i' = 0 then .inl (cA 0, 16, .inr (.inl (fun _ => v))) else mct cA ad n σ t' i' := by
  intro t' i' h
  match t', h with
  | 0, h => rw [if_neg (by omega)]; first | rfl | simp [mct, sI_fL, sL_fL, sR_fL]
  | 1, h => rw [if_neg (by omega)]; first | rfl | simp [mct, sI_fL, sL_fL, sR_fL]
  | 2, h => rw [if_neg (by omega)]; first | rfl | simp [mct, sI_fL, sL_fL, sR_fL]
  | 3, h => rw [if_neg (by omega)]; first | rfl | simp [mct, sI_fL, sL_fL, sR_fL]
  | 4, h =>
    have h : i' = 0 := h
    subst h
    rw [if_pos ⟨rfl, rfl⟩]
    first | rfl | (simp [mct, sI_fL, sL_fL, sR_fL]; done) | (simp [mct, sI_fL, sL_fL, sR_fL]; funext jj; by_cases hj : jj = j <;> simp [sI_fL, sL_fL, sR_fL, hj])
  | 5, h => rw [if_neg (by omega)]; first | rfl | simp [mct, sI_fL, sL_fL, sR_fL]
  | 6, h => rw [if_neg (by omega)]; first | rfl | simp [mct, sI_fL, sL_fL, sR_fL]
  | 7, h => rw [if_neg (by omega)]; first | rfl | simp [mct, sI_fL, sL_fL, sR_fL]
  | 8, h => rw [if_neg (by omega)]; first | rfl | simp [mct, sI_fL, sL_fL, sR_fL]
  | 9, h => rw [if_neg (by omega)]; first | rfl | simp [mct, sI_fL, sL_fL, sR_fL]
  | 10, h => rw [if_neg (by omega)]; first | rfl | simp [mct, sI_fL, sL_fL, sR_fL]
  | 11, h => rw [if_neg (by omega)]; first | rfl | simp [mct, sI_fL, sL_fL, sR_fL]
  | 12, h => rw [if_neg (by omega)]; first | rfl | simp [mct, sI_fL, sL_fL, sR_fL]
  | 13, h => rw [if_neg (by omega)]; first | rfl | simp [mct, sI_fL, sL_fL, sR_fL]
  | 14, h => rw [if_neg (by omega)]; first | rfl | simp [mct, sI_fL, sL_fL, sR_fL]
  | 15, h => rw [if_neg (by omega)]; first | rfl | simp [mct, sI_fL, sL_fL, sR_fL]
  | 16, h => rw [if_neg (by omega)]; first | rfl | simp [mct, sI_fL, sL_fL, sR_fL]
  | 17, h => rw [if_neg (by omega)]; first | rfl | simp [mct, sI_fL, sL_fL, sR_fL]
theorem mm_wL5 {cA : Nat → ClassId} {ad : Nat → Nat → Nat} {n : Nat} {σ : St} {j : Nat} {v : Int64} : ∀ t' i', mdom n σ t' i' → mct cA ad n (wL σ 5 0 j v) t' i' = if t' = 5 ∧ i' = 0 then .inl (cA 0, 16, .inr (.inl (vp_updL (fun j => sL σ 5 0 j) j v))) else mct cA ad n σ t' i' := by
  intro t' i' h
  match t', h with
  | 0, h => rw [if_neg (by omega)]; first | rfl | simp [mct, sI_wL, sL_wL, sR_wL, vp_updL]
  | 1, h => rw [if_neg (by omega)]; first | rfl | simp [mct, sI_wL, sL_wL, sR_wL, vp_updL]
  | 2, h => rw [if_neg (by omega)]; first | rfl | simp [mct, sI_wL, sL_wL, sR_wL, vp_updL]
  | 3, h => rw [if_neg (by omega)]; first | rfl | simp [mct, sI_wL, sL_wL, sR_wL, vp_updL]
  | 4, h => rw [if_neg (by omega)]; first | rfl | simp [mct, sI_wL, sL_wL, sR_wL, vp_updL]
  | 5, h =>
    have h : i' = 0 := h
    subst h
    rw [if_pos ⟨rfl, rfl⟩]
    first | rfl | (simp [mct, sI_wL, sL_wL, sR_wL, vp_updL]; done) | (simp [mct, sI_wL, sL_wL, sR_wL, vp_updL]; funext jj; by_cases hj : jj = j <;> simp [sI_wL, sL_wL, sR_wL, vp_updL, hj])
  | 6, h => rw [if_neg (by omega)]; first | rfl | simp [mct, sI_wL, sL_wL, sR_wL, vp_updL]
  | 7, h => rw [if_neg (by omega)]; first | rfl | simp [mct, sI_wL, sL_wL, sR_wL, vp_updL]
  | 8, h => rw [if_neg (by omega)]; first | rfl | simp [mct, sI_wL, sL_wL, sR_wL, vp_updL]
  | 9, h => rw [if_neg (by omega)]; first | rfl | simp [mct, sI_wL, sL_wL, sR_wL, vp_updL]
  | 10, h => rw [if_neg (by omega)]; first | rfl | simp [mct, sI_wL, sL_wL, sR_wL, vp_updL]
  | 11, h => rw [if_neg (by omega)]; first | rfl | simp [mct, sI_wL, sL_wL, sR_wL, vp_updL]
  | 12, h => rw [if_neg (by omega)]; first | rfl | simp [mct, sI_wL, sL_wL, sR_wL, vp_updL]
  | 13, h => rw [if_neg (by omega)]; first | rfl | simp [mct, sI_wL, sL_wL, sR_wL, vp_updL]
  | 14, h => rw [if_neg (by omega)]; first | rfl | simp [mct, sI_wL, sL_wL, sR_wL, vp_updL]
  | 15, h => rw [if_neg (by omega)]; first | rfl | simp [mct, sI_wL, sL_wL, sR_wL, vp_updL]
  | 16, h => rw [if_neg (by omega)]; first | rfl | simp [mct, sI_wL, sL_wL, sR_wL, vp_updL]
  | 17, h => rw [if_neg (by omega)]; first | rfl | simp [mct, sI_wL, sL_wL, sR_wL, vp_updL]
theorem mm_fL5 {cA : Nat → ClassId} {ad : Nat → Nat → Nat} {n : Nat} {σ : St} {v : Int64} : ∀ t' i', mdom n σ t' i' → mct cA ad n (fL σ 5 0 v) t' i' = if t' = 5 ∧ i' = 0 then .inl (cA 0, 16, .inr (.inl (fun _ => v))) else mct cA ad n σ t' i' := by
  intro t' i' h
  match t', h with
  | 0, h => rw [if_neg (by omega)]; first | rfl | simp [mct, sI_fL, sL_fL, sR_fL]
  | 1, h => rw [if_neg (by omega)]; first | rfl | simp [mct, sI_fL, sL_fL, sR_fL]
  | 2, h => rw [if_neg (by omega)]; first | rfl | simp [mct, sI_fL, sL_fL, sR_fL]
  | 3, h => rw [if_neg (by omega)]; first | rfl | simp [mct, sI_fL, sL_fL, sR_fL]
  | 4, h => rw [if_neg (by omega)]; first | rfl | simp [mct, sI_fL, sL_fL, sR_fL]
  | 5, h =>
    have h : i' = 0 := h
    subst h
    rw [if_pos ⟨rfl, rfl⟩]
    first | rfl | (simp [mct, sI_fL, sL_fL, sR_fL]; done) | (simp [mct, sI_fL, sL_fL, sR_fL]; funext jj; by_cases hj : jj = j <;> simp [sI_fL, sL_fL, sR_fL, hj])
  | 6, h => rw [if_neg (by omega)]; first | rfl | simp [mct, sI_fL, sL_fL, sR_fL]
  | 7, h => rw [if_neg (by omega)]; first | rfl | simp [mct, sI_fL, sL_fL, sR_fL]
  | 8, h => rw [if_neg (by omega)]; first | rfl | simp [mct, sI_fL, sL_fL, sR_fL]
  | 9, h => rw [if_neg (by omega)]; first | rfl | simp [mct, sI_fL, sL_fL, sR_fL]
  | 10, h => rw [if_neg (by omega)]; first | rfl | simp [mct, sI_fL, sL_fL, sR_fL]
  | 11, h => rw [if_neg (by omega)]; first | rfl | simp [mct, sI_fL, sL_fL, sR_fL]
  | 12, h => rw [if_neg (by omega)]; first | rfl | simp [mct, sI_fL, sL_fL, sR_fL]
  | 13, h => rw [if_neg (by omega)]; first | rfl | simp [mct, sI_fL, sL_fL, sR_fL]
  | 14, h => rw [if_neg (by omega)]; first | rfl | simp [mct, sI_fL, sL_fL, sR_fL]
  | 15, h => rw [if_neg (by omega)]; first | rfl | simp [mct, sI_fL, sL_fL, sR_fL]
  | 16, h => rw [if_neg (by omega)]; first | rfl | simp [mct, sI_fL, sL_fL, sR_fL]
  | 17, h => rw [if_neg (by omega)]; first | rfl | simp [mct, sI_fL, sL_fL, sR_fL]
theorem mm_wI4 {cA : Nat → ClassId} {ad : Nat → Nat → Nat} {n : Nat} {σ : St} {j : Nat} {v : Int32} : ∀ t' i', mdom n σ t' i' → mct cA ad n (wI σ 4 0 j v) t' i' = if t' = 6 ∧ i' = 0 then .inl (cA 1, 100, .inl (upd (fun j => sI σ 4 0 j) j v)) else mct cA ad n σ t' i' := by
  intro t' i' h
  match t', h with
  | 0, h => rw [if_neg (by omega)]; first | rfl | simp [mct, sI_wI, sL_wI, sR_wI, upd]
  | 1, h => rw [if_neg (by omega)]; first | rfl | simp [mct, sI_wI, sL_wI, sR_wI, upd]
  | 2, h => rw [if_neg (by omega)]; first | rfl | simp [mct, sI_wI, sL_wI, sR_wI, upd]
  | 3, h => rw [if_neg (by omega)]; first | rfl | simp [mct, sI_wI, sL_wI, sR_wI, upd]
  | 4, h => rw [if_neg (by omega)]; first | rfl | simp [mct, sI_wI, sL_wI, sR_wI, upd]
  | 5, h => rw [if_neg (by omega)]; first | rfl | simp [mct, sI_wI, sL_wI, sR_wI, upd]
  | 6, h =>
    have h : i' = 0 := h
    subst h
    rw [if_pos ⟨rfl, rfl⟩]
    first | rfl | (simp [mct, sI_wI, sL_wI, sR_wI, upd]; done) | (simp [mct, sI_wI, sL_wI, sR_wI, upd]; funext jj; by_cases hj : jj = j <;> simp [sI_wI, sL_wI, sR_wI, upd, hj])
  | 7, h => rw [if_neg (by omega)]; first | rfl | simp [mct, sI_wI, sL_wI, sR_wI, upd]
  | 8, h => rw [if_neg (by omega)]; first | rfl | simp [mct, sI_wI, sL_wI, sR_wI, upd]
  | 9, h => rw [if_neg (by omega)]; first | rfl | simp [mct, sI_wI, sL_wI, sR_wI, upd]
  | 10, h => rw [if_neg (by omega)]; first | rfl | simp [mct, sI_wI, sL_wI, sR_wI, upd]
  | 11, h => rw [if_neg (by omega)]; first | rfl | simp [mct, sI_wI, sL_wI, sR_wI, upd]
  | 12, h => rw [if_neg (by omega)]; first | rfl | simp [mct, sI_wI, sL_wI, sR_wI, upd]
  | 13, h => rw [if_neg (by omega)]; first | rfl | simp [mct, sI_wI, sL_wI, sR_wI, upd]
  | 14, h => rw [if_neg (by omega)]; first | rfl | simp [mct, sI_wI, sL_wI, sR_wI, upd]
  | 15, h => rw [if_neg (by omega)]; first | rfl | simp [mct, sI_wI, sL_wI, sR_wI, upd]
  | 16, h => rw [if_neg (by omega)]; first | rfl | simp [mct, sI_wI, sL_wI, sR_wI, upd]
  | 17, h => rw [if_neg (by omega)]; first | rfl | simp [mct, sI_wI, sL_wI, sR_wI, upd]
theorem mm_fI4 {cA : Nat → ClassId} {ad : Nat → Nat → Nat} {n : Nat} {σ : St} {v : Int32} : ∀ t' i', mdom n σ t' i' → mct cA ad n (fI σ 4 0 v) t' i' = if t' = 6 ∧ i' = 0 then .inl (cA 1, 100, .inl (fun _ => v)) else mct cA ad n σ t' i' := by
  intro t' i' h
  match t', h with
  | 0, h => rw [if_neg (by omega)]; first | rfl | simp [mct, sI_fI, sL_fI, sR_fI]
  | 1, h => rw [if_neg (by omega)]; first | rfl | simp [mct, sI_fI, sL_fI, sR_fI]
  | 2, h => rw [if_neg (by omega)]; first | rfl | simp [mct, sI_fI, sL_fI, sR_fI]
  | 3, h => rw [if_neg (by omega)]; first | rfl | simp [mct, sI_fI, sL_fI, sR_fI]
  | 4, h => rw [if_neg (by omega)]; first | rfl | simp [mct, sI_fI, sL_fI, sR_fI]
  | 5, h => rw [if_neg (by omega)]; first | rfl | simp [mct, sI_fI, sL_fI, sR_fI]
  | 6, h =>
    have h : i' = 0 := h
    subst h
    rw [if_pos ⟨rfl, rfl⟩]
    first | rfl | (simp [mct, sI_fI, sL_fI, sR_fI]; done) | (simp [mct, sI_fI, sL_fI, sR_fI]; funext jj; by_cases hj : jj = j <;> simp [sI_fI, sL_fI, sR_fI, hj])
  | 7, h => rw [if_neg (by omega)]; first | rfl | simp [mct, sI_fI, sL_fI, sR_fI]
  | 8, h => rw [if_neg (by omega)]; first | rfl | simp [mct, sI_fI, sL_fI, sR_fI]
  | 9, h => rw [if_neg (by omega)]; first | rfl | simp [mct, sI_fI, sL_fI, sR_fI]
  | 10, h => rw [if_neg (by omega)]; first | rfl | simp [mct, sI_fI, sL_fI, sR_fI]
  | 11, h => rw [if_neg (by omega)]; first | rfl | simp [mct, sI_fI, sL_fI, sR_fI]
  | 12, h => rw [if_neg (by omega)]; first | rfl | simp [mct, sI_fI, sL_fI, sR_fI]
  | 13, h => rw [if_neg (by omega)]; first | rfl | simp [mct, sI_fI, sL_fI, sR_fI]
  | 14, h => rw [if_neg (by omega)]; first | rfl | simp [mct, sI_fI, sL_fI, sR_fI]
  | 15, h => rw [if_neg (by omega)]; first | rfl | simp [mct, sI_fI, sL_fI, sR_fI]
  | 16, h => rw [if_neg (by omega)]; first | rfl | simp [mct, sI_fI, sL_fI, sR_fI]
  | 17, h => rw [if_neg (by omega)]; first | rfl | simp [mct, sI_fI, sL_fI, sR_fI]
theorem mm_wI5 {cA : Nat → ClassId} {ad : Nat → Nat → Nat} {n : Nat} {σ : St} {j : Nat} {v : Int32} : ∀ t' i', mdom n σ t' i' → mct cA ad n (wI σ 5 0 j v) t' i' = if t' = 7 ∧ i' = 0 then .inl (cA 1, 100, .inl (upd (fun j => sI σ 5 0 j) j v)) else mct cA ad n σ t' i' := by
  intro t' i' h
  match t', h with
  | 0, h => rw [if_neg (by omega)]; first | rfl | simp [mct, sI_wI, sL_wI, sR_wI, upd]
  | 1, h => rw [if_neg (by omega)]; first | rfl | simp [mct, sI_wI, sL_wI, sR_wI, upd]
  | 2, h => rw [if_neg (by omega)]; first | rfl | simp [mct, sI_wI, sL_wI, sR_wI, upd]
  | 3, h => rw [if_neg (by omega)]; first | rfl | simp [mct, sI_wI, sL_wI, sR_wI, upd]
  | 4, h => rw [if_neg (by omega)]; first | rfl | simp [mct, sI_wI, sL_wI, sR_wI, upd]
  | 5, h => rw [if_neg (by omega)]; first | rfl | simp [mct, sI_wI, sL_wI, sR_wI, upd]
  | 6, h => rw [if_neg (by omega)]; first | rfl | simp [mct, sI_wI, sL_wI, sR_wI, upd]
  | 7, h =>
    have h : i' = 0 := h
    subst h
    rw [if_pos ⟨rfl, rfl⟩]
    first | rfl | (simp [mct, sI_wI, sL_wI, sR_wI, upd]; done) | (simp [mct, sI_wI, sL_wI, sR_wI, upd]; funext jj; by_cases hj : jj = j <;> simp [sI_wI, sL_wI, sR_wI, upd, hj])
  | 8, h => rw [if_neg (by omega)]; first | rfl | simp [mct, sI_wI, sL_wI, sR_wI, upd]
  | 9, h => rw [if_neg (by omega)]; first | rfl | simp [mct, sI_wI, sL_wI, sR_wI, upd]
  | 10, h => rw [if_neg (by omega)]; first | rfl | simp [mct, sI_wI, sL_wI, sR_wI, upd]
  | 11, h => rw [if_neg (by omega)]; first | rfl | simp [mct, sI_wI, sL_wI, sR_wI, upd]
  | 12, h => rw [if_neg (by omega)]; first | rfl | simp [mct, sI_wI, sL_wI, sR_wI, upd]
  | 13, h => rw [if_neg (by omega)]; first | rfl | simp [mct, sI_wI, sL_wI, sR_wI, upd]
  | 14, h => rw [if_neg (by omega)]; first | rfl | simp [mct, sI_wI, sL_wI, sR_wI, upd]
  | 15, h => rw [if_neg (by omega)]; first | rfl | simp [mct, sI_wI, sL_wI, sR_wI, upd]
  | 16, h => rw [if_neg (by omega)]; first | rfl | simp [mct, sI_wI, sL_wI, sR_wI, upd]
  | 17, h => rw [if_neg (by omega)]; first | rfl | simp [mct, sI_wI, sL_wI, sR_wI, upd]
theorem mm_fI5 {cA : Nat → ClassId} {ad : Nat → Nat → Nat} {n : Nat} {σ : St} {v : Int32} : ∀ t' i', mdom n σ t' i' → mct cA ad n (fI σ 5 0 v) t' i' = if t' = 7 ∧ i' = 0 then .inl (cA 1, 100, .inl (fun _ => v)) else mct cA ad n σ t' i' := by
  intro t' i' h
  match t', h with
  | 0, h => rw [if_neg (by omega)]; first | rfl | simp [mct, sI_fI, sL_fI, sR_fI]
  | 1, h => rw [if_neg (by omega)]; first | rfl | simp [mct, sI_fI, sL_fI, sR_fI]
  | 2, h => rw [if_neg (by omega)]; first | rfl | simp [mct, sI_fI, sL_fI, sR_fI]
  | 3, h => rw [if_neg (by omega)]; first | rfl | simp [mct, sI_fI, sL_fI, sR_fI]
  | 4, h => rw [if_neg (by omega)]; first | rfl | simp [mct, sI_fI, sL_fI, sR_fI]
  | 5, h => rw [if_neg (by omega)]; first | rfl | simp [mct, sI_fI, sL_fI, sR_fI]
  | 6, h => rw [if_neg (by omega)]; first | rfl | simp [mct, sI_fI, sL_fI, sR_fI]
  | 7, h =>
    have h : i' = 0 := h
    subst h
    rw [if_pos ⟨rfl, rfl⟩]
    first | rfl | (simp [mct, sI_fI, sL_fI, sR_fI]; done) | (simp [mct, sI_fI, sL_fI, sR_fI]; funext jj; by_cases hj : jj = j <;> simp [sI_fI, sL_fI, sR_fI, hj])
  | 8, h => rw [if_neg (by omega)]; first | rfl | simp [mct, sI_fI, sL_fI, sR_fI]
  | 9, h => rw [if_neg (by omega)]; first | rfl | simp [mct, sI_fI, sL_fI, sR_fI]
  | 10, h => rw [if_neg (by omega)]; first | rfl | simp [mct, sI_fI, sL_fI, sR_fI]
  | 11, h => rw [if_neg (by omega)]; first | rfl | simp [mct, sI_fI, sL_fI, sR_fI]
  | 12, h => rw [if_neg (by omega)]; first | rfl | simp [mct, sI_fI, sL_fI, sR_fI]
  | 13, h => rw [if_neg (by omega)]; first | rfl | simp [mct, sI_fI, sL_fI, sR_fI]
  | 14, h => rw [if_neg (by omega)]; first | rfl | simp [mct, sI_fI, sL_fI, sR_fI]
  | 15, h => rw [if_neg (by omega)]; first | rfl | simp [mct, sI_fI, sL_fI, sR_fI]
  | 16, h => rw [if_neg (by omega)]; first | rfl | simp [mct, sI_fI, sL_fI, sR_fI]
  | 17, h => rw [if_neg (by omega)]; first | rfl | simp [mct, sI_fI, sL_fI, sR_fI]
theorem mm_wL6 {cA : Nat → ClassId} {ad : Nat → Nat → Nat} {n : Nat} {σ : St} {j : Nat} {v : Int64} : ∀ t' i', mdom n σ t' i' → mct cA ad n (wL σ 6 0 j v) t' i' = if t' = 8 ∧ i' = 0 then .inl (cA 0, 100, .inr (.inl (vp_updL (fun j => sL σ 6 0 j) j v))) else mct cA ad n σ t' i' := by
  intro t' i' h
  match t', h with
  | 0, h => rw [if_neg (by omega)]; first | rfl | simp [mct, sI_wL, sL_wL, sR_wL, vp_updL]
  | 1, h => rw [if_neg (by omega)]; first | rfl | simp [mct, sI_wL, sL_wL, sR_wL, vp_updL]
  | 2, h => rw [if_neg (by omega)]; first | rfl | simp [mct, sI_wL, sL_wL, sR_wL, vp_updL]
  | 3, h => rw [if_neg (by omega)]; first | rfl | simp [mct, sI_wL, sL_wL, sR_wL, vp_updL]
  | 4, h => rw [if_neg (by omega)]; first | rfl | simp [mct, sI_wL, sL_wL, sR_wL, vp_updL]
  | 5, h => rw [if_neg (by omega)]; first | rfl | simp [mct, sI_wL, sL_wL, sR_wL, vp_updL]
  | 6, h => rw [if_neg (by omega)]; first | rfl | simp [mct, sI_wL, sL_wL, sR_wL, vp_updL]
  | 7, h => rw [if_neg (by omega)]; first | rfl | simp [mct, sI_wL, sL_wL, sR_wL, vp_updL]
  | 8, h =>
    have h : i' = 0 := h
    subst h
    rw [if_pos ⟨rfl, rfl⟩]
    first | rfl | (simp [mct, sI_wL, sL_wL, sR_wL, vp_updL]; done) | (simp [mct, sI_wL, sL_wL, sR_wL, vp_updL]; funext jj; by_cases hj : jj = j <;> simp [sI_wL, sL_wL, sR_wL, vp_updL, hj])
  | 9, h => rw [if_neg (by omega)]; first | rfl | simp [mct, sI_wL, sL_wL, sR_wL, vp_updL]
  | 10, h => rw [if_neg (by omega)]; first | rfl | simp [mct, sI_wL, sL_wL, sR_wL, vp_updL]
  | 11, h => rw [if_neg (by omega)]; first | rfl | simp [mct, sI_wL, sL_wL, sR_wL, vp_updL]
  | 12, h => rw [if_neg (by omega)]; first | rfl | simp [mct, sI_wL, sL_wL, sR_wL, vp_updL]
  | 13, h => rw [if_neg (by omega)]; first | rfl | simp [mct, sI_wL, sL_wL, sR_wL, vp_updL]
  | 14, h => rw [if_neg (by omega)]; first | rfl | simp [mct, sI_wL, sL_wL, sR_wL, vp_updL]
  | 15, h => rw [if_neg (by omega)]; first | rfl | simp [mct, sI_wL, sL_wL, sR_wL, vp_updL]
  | 16, h => rw [if_neg (by omega)]; first | rfl | simp [mct, sI_wL, sL_wL, sR_wL, vp_updL]
  | 17, h => rw [if_neg (by omega)]; first | rfl | simp [mct, sI_wL, sL_wL, sR_wL, vp_updL]
theorem mm_fL6 {cA : Nat → ClassId} {ad : Nat → Nat → Nat} {n : Nat} {σ : St} {v : Int64} : ∀ t' i', mdom n σ t' i' → mct cA ad n (fL σ 6 0 v) t' i' = if t' = 8 ∧ i' = 0 then .inl (cA 0, 100, .inr (.inl (fun _ => v))) else mct cA ad n σ t' i' := by
  intro t' i' h
  match t', h with
  | 0, h => rw [if_neg (by omega)]; first | rfl | simp [mct, sI_fL, sL_fL, sR_fL]
  | 1, h => rw [if_neg (by omega)]; first | rfl | simp [mct, sI_fL, sL_fL, sR_fL]
  | 2, h => rw [if_neg (by omega)]; first | rfl | simp [mct, sI_fL, sL_fL, sR_fL]
  | 3, h => rw [if_neg (by omega)]; first | rfl | simp [mct, sI_fL, sL_fL, sR_fL]
  | 4, h => rw [if_neg (by omega)]; first | rfl | simp [mct, sI_fL, sL_fL, sR_fL]
  | 5, h => rw [if_neg (by omega)]; first | rfl | simp [mct, sI_fL, sL_fL, sR_fL]
  | 6, h => rw [if_neg (by omega)]; first | rfl | simp [mct, sI_fL, sL_fL, sR_fL]
  | 7, h => rw [if_neg (by omega)]; first | rfl | simp [mct, sI_fL, sL_fL, sR_fL]
  | 8, h =>
    have h : i' = 0 := h
    subst h
    rw [if_pos ⟨rfl, rfl⟩]
    first | rfl | (simp [mct, sI_fL, sL_fL, sR_fL]; done) | (simp [mct, sI_fL, sL_fL, sR_fL]; funext jj; by_cases hj : jj = j <;> simp [sI_fL, sL_fL, sR_fL, hj])
  | 9, h => rw [if_neg (by omega)]; first | rfl | simp [mct, sI_fL, sL_fL, sR_fL]
  | 10, h => rw [if_neg (by omega)]; first | rfl | simp [mct, sI_fL, sL_fL, sR_fL]
  | 11, h => rw [if_neg (by omega)]; first | rfl | simp [mct, sI_fL, sL_fL, sR_fL]
  | 12, h => rw [if_neg (by omega)]; first | rfl | simp [mct, sI_fL, sL_fL, sR_fL]
  | 13, h => rw [if_neg (by omega)]; first | rfl | simp [mct, sI_fL, sL_fL, sR_fL]
  | 14, h => rw [if_neg (by omega)]; first | rfl | simp [mct, sI_fL, sL_fL, sR_fL]
  | 15, h => rw [if_neg (by omega)]; first | rfl | simp [mct, sI_fL, sL_fL, sR_fL]
  | 16, h => rw [if_neg (by omega)]; first | rfl | simp [mct, sI_fL, sL_fL, sR_fL]
  | 17, h => rw [if_neg (by omega)]; first | rfl | simp [mct, sI_fL, sL_fL, sR_fL]
theorem mm_wI6 {cA : Nat → ClassId} {ad : Nat → Nat → Nat} {n : Nat} {σ : St} {j : Nat} {v : Int32} : ∀ t' i', mdom n σ t' i' → mct cA ad n (wI σ 6 0 j v) t' i' = if t' = 9 ∧ i' = 0 then .inl (cA 1, 100, .inl (upd (fun j => sI σ 6 0 j) j v)) else mct cA ad n σ t' i' := by
  intro t' i' h
  match t', h with
  | 0, h => rw [if_neg (by omega)]; first | rfl | simp [mct, sI_wI, sL_wI, sR_wI, upd]
  | 1, h => rw [if_neg (by omega)]; first | rfl | simp [mct, sI_wI, sL_wI, sR_wI, upd]
  | 2, h => rw [if_neg (by omega)]; first | rfl | simp [mct, sI_wI, sL_wI, sR_wI, upd]
  | 3, h => rw [if_neg (by omega)]; first | rfl | simp [mct, sI_wI, sL_wI, sR_wI, upd]
  | 4, h => rw [if_neg (by omega)]; first | rfl | simp [mct, sI_wI, sL_wI, sR_wI, upd]
  | 5, h => rw [if_neg (by omega)]; first | rfl | simp [mct, sI_wI, sL_wI, sR_wI, upd]
  | 6, h => rw [if_neg (by omega)]; first | rfl | simp [mct, sI_wI, sL_wI, sR_wI, upd]
  | 7, h => rw [if_neg (by omega)]; first | rfl | simp [mct, sI_wI, sL_wI, sR_wI, upd]
  | 8, h => rw [if_neg (by omega)]; first | rfl | simp [mct, sI_wI, sL_wI, sR_wI, upd]
  | 9, h =>
    have h : i' = 0 := h
    subst h
    rw [if_pos ⟨rfl, rfl⟩]
    first | rfl | (simp [mct, sI_wI, sL_wI, sR_wI, upd]; done) | (simp [mct, sI_wI, sL_wI, sR_wI, upd]; funext jj; by_cases hj : jj = j <;> simp [sI_wI, sL_wI, sR_wI, upd, hj])
  | 10, h => rw [if_neg (by omega)]; first | rfl | simp [mct, sI_wI, sL_wI, sR_wI, upd]
  | 11, h => rw [if_neg (by omega)]; first | rfl | simp [mct, sI_wI, sL_wI, sR_wI, upd]
  | 12, h => rw [if_neg (by omega)]; first | rfl | simp [mct, sI_wI, sL_wI, sR_wI, upd]
  | 13, h => rw [if_neg (by omega)]; first | rfl | simp [mct, sI_wI, sL_wI, sR_wI, upd]
  | 14, h => rw [if_neg (by omega)]; first | rfl | simp [mct, sI_wI, sL_wI, sR_wI, upd]
  | 15, h => rw [if_neg (by omega)]; first | rfl | simp [mct, sI_wI, sL_wI, sR_wI, upd]
  | 16, h => rw [if_neg (by omega)]; first | rfl | simp [mct, sI_wI, sL_wI, sR_wI, upd]
  | 17, h => rw [if_neg (by omega)]; first | rfl | simp [mct, sI_wI, sL_wI, sR_wI, upd]
theorem mm_fI6 {cA : Nat → ClassId} {ad : Nat → Nat → Nat} {n : Nat} {σ : St} {v : Int32} : ∀ t' i', mdom n σ t' i' → mct cA ad n (fI σ 6 0 v) t' i' = if t' = 9 ∧ i' = 0 then .inl (cA 1, 100, .inl (fun _ => v)) else mct cA ad n σ t' i' := by
  intro t' i' h
  match t', h with
  | 0, h => rw [if_neg (by omega)]; first | rfl | simp [mct, sI_fI, sL_fI, sR_fI]
  | 1, h => rw [if_neg (by omega)]; first | rfl | simp [mct, sI_fI, sL_fI, sR_fI]
  | 2, h => rw [if_neg (by omega)]; first | rfl | simp [mct, sI_fI, sL_fI, sR_fI]
  | 3, h => rw [if_neg (by omega)]; first | rfl | simp [mct, sI_fI, sL_fI, sR_fI]
  | 4, h => rw [if_neg (by omega)]; first | rfl | simp [mct, sI_fI, sL_fI, sR_fI]
  | 5, h => rw [if_neg (by omega)]; first | rfl | simp [mct, sI_fI, sL_fI, sR_fI]
  | 6, h => rw [if_neg (by omega)]; first | rfl | simp [mct, sI_fI, sL_fI, sR_fI]
  | 7, h => rw [if_neg (by omega)]; first | rfl | simp [mct, sI_fI, sL_fI, sR_fI]
  | 8, h => rw [if_neg (by omega)]; first | rfl | simp [mct, sI_fI, sL_fI, sR_fI]
  | 9, h =>
    have h : i' = 0 := h
    subst h
    rw [if_pos ⟨rfl, rfl⟩]
    first | rfl | (simp [mct, sI_fI, sL_fI, sR_fI]; done) | (simp [mct, sI_fI, sL_fI, sR_fI]; funext jj; by_cases hj : jj = j <;> simp [sI_fI, sL_fI, sR_fI, hj])
  | 10, h => rw [if_neg (by omega)]; first | rfl | simp [mct, sI_fI, sL_fI, sR_fI]
  | 11, h => rw [if_neg (by omega)]; first | rfl | simp [mct, sI_fI, sL_fI, sR_fI]
  | 12, h => rw [if_neg (by omega)]; first | rfl | simp [mct, sI_fI, sL_fI, sR_fI]
  | 13, h => rw [if_neg (by omega)]; first | rfl | simp [mct, sI_fI, sL_fI, sR_fI]
  | 14, h => rw [if_neg (by omega)]; first | rfl | simp [mct, sI_fI, sL_fI, sR_fI]
  | 15, h => rw [if_neg (by omega)]; first | rfl | simp [mct, sI_fI, sL_fI, sR_fI]
  | 16, h => rw [if_neg (by omega)]; first | rfl | simp [mct, sI_fI, sL_fI, sR_fI]
  | 17, h => rw [if_neg (by omega)]; first | rfl | simp [mct, sI_fI, sL_fI, sR_fI]
theorem mm_wI7 {cA : Nat → ClassId} {ad : Nat → Nat → Nat} {n : Nat} {σ : St} {j : Nat} {v : Int32} : ∀ t' i', mdom n σ t' i' → mct cA ad n (wI σ 7 0 j v) t' i' = if t' = 10 ∧ i' = 0 then .inl (cA 1, 100, .inl (upd (fun j => sI σ 7 0 j) j v)) else mct cA ad n σ t' i' := by
  intro t' i' h
  match t', h with
  | 0, h => rw [if_neg (by omega)]; first | rfl | simp [mct, sI_wI, sL_wI, sR_wI, upd]
  | 1, h => rw [if_neg (by omega)]; first | rfl | simp [mct, sI_wI, sL_wI, sR_wI, upd]
  | 2, h => rw [if_neg (by omega)]; first | rfl | simp [mct, sI_wI, sL_wI, sR_wI, upd]
  | 3, h => rw [if_neg (by omega)]; first | rfl | simp [mct, sI_wI, sL_wI, sR_wI, upd]
  | 4, h => rw [if_neg (by omega)]; first | rfl | simp [mct, sI_wI, sL_wI, sR_wI, upd]
  | 5, h => rw [if_neg (by omega)]; first | rfl | simp [mct, sI_wI, sL_wI, sR_wI, upd]
  | 6, h => rw [if_neg (by omega)]; first | rfl | simp [mct, sI_wI, sL_wI, sR_wI, upd]
  | 7, h => rw [if_neg (by omega)]; first | rfl | simp [mct, sI_wI, sL_wI, sR_wI, upd]
  | 8, h => rw [if_neg (by omega)]; first | rfl | simp [mct, sI_wI, sL_wI, sR_wI, upd]
  | 9, h => rw [if_neg (by omega)]; first | rfl | simp [mct, sI_wI, sL_wI, sR_wI, upd]
  | 10, h =>
    have h : i' = 0 := h
    subst h
    rw [if_pos ⟨rfl, rfl⟩]
    first | rfl | (simp [mct, sI_wI, sL_wI, sR_wI, upd]; done) | (simp [mct, sI_wI, sL_wI, sR_wI, upd]; funext jj; by_cases hj : jj = j <;> simp [sI_wI, sL_wI, sR_wI, upd, hj])
  | 11, h => rw [if_neg (by omega)]; first | rfl | simp [mct, sI_wI, sL_wI, sR_wI, upd]
  | 12, h => rw [if_neg (by omega)]; first | rfl | simp [mct, sI_wI, sL_wI, sR_wI, upd]
  | 13, h => rw [if_neg (by omega)]; first | rfl | simp [mct, sI_wI, sL_wI, sR_wI, upd]
  | 14, h => rw [if_neg (by omega)]; first | rfl | simp [mct, sI_wI, sL_wI, sR_wI, upd]
  | 15, h => rw [if_neg (by omega)]; first | rfl | simp [mct, sI_wI, sL_wI, sR_wI, upd]
  | 16, h => rw [if_neg (by omega)]; first | rfl | simp [mct, sI_wI, sL_wI, sR_wI, upd]
  | 17, h => rw [if_neg (by omega)]; first | rfl | simp [mct, sI_wI, sL_wI, sR_wI, upd]
theorem mm_fI7 {cA : Nat → ClassId} {ad : Nat → Nat → Nat} {n : Nat} {σ : St} {v : Int32} : ∀ t' i', mdom n σ t' i' → mct cA ad n (fI σ 7 0 v) t' i' = if t' = 10 ∧ i' = 0 then .inl (cA 1, 100, .inl (fun _ => v)) else mct cA ad n σ t' i' := by
  intro t' i' h
  match t', h with
  | 0, h => rw [if_neg (by omega)]; first | rfl | simp [mct, sI_fI, sL_fI, sR_fI]
  | 1, h => rw [if_neg (by omega)]; first | rfl | simp [mct, sI_fI, sL_fI, sR_fI]
  | 2, h => rw [if_neg (by omega)]; first | rfl | simp [mct, sI_fI, sL_fI, sR_fI]
  | 3, h => rw [if_neg (by omega)]; first | rfl | simp [mct, sI_fI, sL_fI, sR_fI]
  | 4, h => rw [if_neg (by omega)]; first | rfl | simp [mct, sI_fI, sL_fI, sR_fI]
  | 5, h => rw [if_neg (by omega)]; first | rfl | simp [mct, sI_fI, sL_fI, sR_fI]
  | 6, h => rw [if_neg (by omega)]; first | rfl | simp [mct, sI_fI, sL_fI, sR_fI]
  | 7, h => rw [if_neg (by omega)]; first | rfl | simp [mct, sI_fI, sL_fI, sR_fI]
  | 8, h => rw [if_neg (by omega)]; first | rfl | simp [mct, sI_fI, sL_fI, sR_fI]
  | 9, h => rw [if_neg (by omega)]; first | rfl | simp [mct, sI_fI, sL_fI, sR_fI]
  | 10, h =>
    have h : i' = 0 := h
    subst h
    rw [if_pos ⟨rfl, rfl⟩]
    first | rfl | (simp [mct, sI_fI, sL_fI, sR_fI]; done) | (simp [mct, sI_fI, sL_fI, sR_fI]; funext jj; by_cases hj : jj = j <;> simp [sI_fI, sL_fI, sR_fI, hj])
  | 11, h => rw [if_neg (by omega)]; first | rfl | simp [mct, sI_fI, sL_fI, sR_fI]
  | 12, h => rw [if_neg (by omega)]; first | rfl | simp [mct, sI_fI, sL_fI, sR_fI]
  | 13, h => rw [if_neg (by omega)]; first | rfl | simp [mct, sI_fI, sL_fI, sR_fI]
  | 14, h => rw [if_neg (by omega)]; first | rfl | simp [mct, sI_fI, sL_fI, sR_fI]
  | 15, h => rw [if_neg (by omega)]; first | rfl | simp [mct, sI_fI, sL_fI, sR_fI]
  | 16, h => rw [if_neg (by omega)]; first | rfl | simp [mct, sI_fI, sL_fI, sR_fI]
  | 17, h => rw [if_neg (by omega)]; first | rfl | simp [mct, sI_fI, sL_fI, sR_fI]
theorem mm_wI8 {cA : Nat → ClassId} {ad : Nat → Nat → Nat} {n : Nat} {σ : St} {j : Nat} {v : Int32} : ∀ t' i', mdom n σ t' i' → mct cA ad n (wI σ 8 0 j v) t' i' = if t' = 11 ∧ i' = 0 then .inl (cA 1, 100, .inl (upd (fun j => sI σ 8 0 j) j v)) else mct cA ad n σ t' i' := by
  intro t' i' h
  match t', h with
  | 0, h => rw [if_neg (by omega)]; first | rfl | simp [mct, sI_wI, sL_wI, sR_wI, upd]
  | 1, h => rw [if_neg (by omega)]; first | rfl | simp [mct, sI_wI, sL_wI, sR_wI, upd]
  | 2, h => rw [if_neg (by omega)]; first | rfl | simp [mct, sI_wI, sL_wI, sR_wI, upd]
  | 3, h => rw [if_neg (by omega)]; first | rfl | simp [mct, sI_wI, sL_wI, sR_wI, upd]
  | 4, h => rw [if_neg (by omega)]; first | rfl | simp [mct, sI_wI, sL_wI, sR_wI, upd]
  | 5, h => rw [if_neg (by omega)]; first | rfl | simp [mct, sI_wI, sL_wI, sR_wI, upd]
  | 6, h => rw [if_neg (by omega)]; first | rfl | simp [mct, sI_wI, sL_wI, sR_wI, upd]
  | 7, h => rw [if_neg (by omega)]; first | rfl | simp [mct, sI_wI, sL_wI, sR_wI, upd]
  | 8, h => rw [if_neg (by omega)]; first | rfl | simp [mct, sI_wI, sL_wI, sR_wI, upd]
  | 9, h => rw [if_neg (by omega)]; first | rfl | simp [mct, sI_wI, sL_wI, sR_wI, upd]
  | 10, h => rw [if_neg (by omega)]; first | rfl | simp [mct, sI_wI, sL_wI, sR_wI, upd]
  | 11, h =>
    have h : i' = 0 := h
    subst h
    rw [if_pos ⟨rfl, rfl⟩]
    first | rfl | (simp [mct, sI_wI, sL_wI, sR_wI, upd]; done) | (simp [mct, sI_wI, sL_wI, sR_wI, upd]; funext jj; by_cases hj : jj = j <;> simp [sI_wI, sL_wI, sR_wI, upd, hj])
  | 12, h => rw [if_neg (by omega)]; first | rfl | simp [mct, sI_wI, sL_wI, sR_wI, upd]
  | 13, h => rw [if_neg (by omega)]; first | rfl | simp [mct, sI_wI, sL_wI, sR_wI, upd]
  | 14, h => rw [if_neg (by omega)]; first | rfl | simp [mct, sI_wI, sL_wI, sR_wI, upd]
  | 15, h => rw [if_neg (by omega)]; first | rfl | simp [mct, sI_wI, sL_wI, sR_wI, upd]
  | 16, h => rw [if_neg (by omega)]; first | rfl | simp [mct, sI_wI, sL_wI, sR_wI, upd]
  | 17, h => rw [if_neg (by omega)]; first | rfl | simp [mct, sI_wI, sL_wI, sR_wI, upd]
theorem mm_fI8 {cA : Nat → ClassId} {ad : Nat → Nat → Nat} {n : Nat} {σ : St} {v : Int32} : ∀ t' i', mdom n σ t' i' → mct cA ad n (fI σ 8 0 v) t' i' = if t' = 11 ∧ i' = 0 then .inl (cA 1, 100, .inl (fun _ => v)) else mct cA ad n σ t' i' := by
  intro t' i' h
  match t', h with
  | 0, h => rw [if_neg (by omega)]; first | rfl | simp [mct, sI_fI, sL_fI, sR_fI]
  | 1, h => rw [if_neg (by omega)]; first | rfl | simp [mct, sI_fI, sL_fI, sR_fI]
  | 2, h => rw [if_neg (by omega)]; first | rfl | simp [mct, sI_fI, sL_fI, sR_fI]
  | 3, h => rw [if_neg (by omega)]; first | rfl | simp [mct, sI_fI, sL_fI, sR_fI]
  | 4, h => rw [if_neg (by omega)]; first | rfl | simp [mct, sI_fI, sL_fI, sR_fI]
  | 5, h => rw [if_neg (by omega)]; first | rfl | simp [mct, sI_fI, sL_fI, sR_fI]
  | 6, h => rw [if_neg (by omega)]; first | rfl | simp [mct, sI_fI, sL_fI, sR_fI]
  | 7, h => rw [if_neg (by omega)]; first | rfl | simp [mct, sI_fI, sL_fI, sR_fI]
  | 8, h => rw [if_neg (by omega)]; first | rfl | simp [mct, sI_fI, sL_fI, sR_fI]
  | 9, h => rw [if_neg (by omega)]; first | rfl | simp [mct, sI_fI, sL_fI, sR_fI]
  | 10, h => rw [if_neg (by omega)]; first | rfl | simp [mct, sI_fI, sL_fI, sR_fI]
  | 11, h =>
    have h : i' = 0 := h
    subst h
    rw [if_pos ⟨rfl, rfl⟩]
    first | rfl | (simp [mct, sI_fI, sL_fI, sR_fI]; done) | (simp [mct, sI_fI, sL_fI, sR_fI]; funext jj; by_cases hj : jj = j <;> simp [sI_fI, sL_fI, sR_fI, hj])
  | 12, h => rw [if_neg (by omega)]; first | rfl | simp [mct, sI_fI, sL_fI, sR_fI]
  | 13, h => rw [if_neg (by omega)]; first | rfl | simp [mct, sI_fI, sL_fI, sR_fI]
  | 14, h => rw [if_neg (by omega)]; first | rfl | simp [mct, sI_fI, sL_fI, sR_fI]
  | 15, h => rw [if_neg (by omega)]; first | rfl | simp [mct, sI_fI, sL_fI, sR_fI]
  | 16, h => rw [if_neg (by omega)]; first | rfl | simp [mct, sI_fI, sL_fI, sR_fI]
  | 17, h => rw [if_neg (by omega)]; first | rfl | simp [mct, sI_fI, sL_fI, sR_fI]
theorem mm_wI9 {cA : Nat → ClassId} {ad : Nat → Nat → Nat} {n : Nat} {σ : St} {j : Nat} {v : Int32} : ∀ t' i', mdom n σ t' i' → mct cA ad n (wI σ 9 0 j v) t' i' = if t' = 12 ∧ i' = 0 then .inl (cA 1, 100, .inl (upd (fun j => sI σ 9 0 j) j v)) else mct cA ad n σ t' i' := by
  intro t' i' h
  match t', h with
  | 0, h => rw [if_neg (by omega)]; first | rfl | simp [mct, sI_wI, sL_wI, sR_wI, upd]
  | 1, h => rw [if_neg (by omega)]; first | rfl | simp [mct, sI_wI, sL_wI, sR_wI, upd]
  | 2, h => rw [if_neg (by omega)]; first | rfl | simp [mct, sI_wI, sL_wI, sR_wI, upd]
  | 3, h => rw [if_neg (by omega)]; first | rfl | simp [mct, sI_wI, sL_wI, sR_wI, upd]
  | 4, h => rw [if_neg (by omega)]; first | rfl | simp [mct, sI_wI, sL_wI, sR_wI, upd]
  | 5, h => rw [if_neg (by omega)]; first | rfl | simp [mct, sI_wI, sL_wI, sR_wI, upd]
  | 6, h => rw [if_neg (by omega)]; first | rfl | simp [mct, sI_wI, sL_wI, sR_wI, upd]
  | 7, h => rw [if_neg (by omega)]; first | rfl | simp [mct, sI_wI, sL_wI, sR_wI, upd]
  | 8, h => rw [if_neg (by omega)]; first | rfl | simp [mct, sI_wI, sL_wI, sR_wI, upd]
  | 9, h => rw [if_neg (by omega)]; first | rfl | simp [mct, sI_wI, sL_wI, sR_wI, upd]
  | 10, h => rw [if_neg (by omega)]; first | rfl | simp [mct, sI_wI, sL_wI, sR_wI, upd]
  | 11, h => rw [if_neg (by omega)]; first | rfl | simp [mct, sI_wI, sL_wI, sR_wI, upd]
  | 12, h =>
    have h : i' = 0 := h
    subst h
    rw [if_pos ⟨rfl, rfl⟩]
    first | rfl | (simp [mct, sI_wI, sL_wI, sR_wI, upd]; done) | (simp [mct, sI_wI, sL_wI, sR_wI, upd]; funext jj; by_cases hj : jj = j <;> simp [sI_wI, sL_wI, sR_wI, upd, hj])
  | 13, h => rw [if_neg (by omega)]; first | rfl | simp [mct, sI_wI, sL_wI, sR_wI, upd]
  | 14, h => rw [if_neg (by omega)]; first | rfl | simp [mct, sI_wI, sL_wI, sR_wI, upd]
  | 15, h => rw [if_neg (by omega)]; first | rfl | simp [mct, sI_wI, sL_wI, sR_wI, upd]
  | 16, h => rw [if_neg (by omega)]; first | rfl | simp [mct, sI_wI, sL_wI, sR_wI, upd]
  | 17, h => rw [if_neg (by omega)]; first | rfl | simp [mct, sI_wI, sL_wI, sR_wI, upd]
theorem mm_fI9 {cA : Nat → ClassId} {ad : Nat → Nat → Nat} {n : Nat} {σ : St} {v : Int32} : ∀ t' i', mdom n σ t' i' → mct cA ad n (fI σ 9 0 v) t' i' = if t' = 12 ∧ i' = 0 then .inl (cA 1, 100, .inl (fun _ => v)) else mct cA ad n σ t' i' := by
  intro t' i' h
  match t', h with
  | 0, h => rw [if_neg (by omega)]; first | rfl | simp [mct, sI_fI, sL_fI, sR_fI]
  | 1, h => rw [if_neg (by omega)]; first | rfl | simp [mct, sI_fI, sL_fI, sR_fI]
  | 2, h => rw [if_neg (by omega)]; first | rfl | simp [mct, sI_fI, sL_fI, sR_fI]
  | 3, h => rw [if_neg (by omega)]; first | rfl | simp [mct, sI_fI, sL_fI, sR_fI]
  | 4, h => rw [if_neg (by omega)]; first | rfl | simp [mct, sI_fI, sL_fI, sR_fI]
  | 5, h => rw [if_neg (by omega)]; first | rfl | simp [mct, sI_fI, sL_fI, sR_fI]
  | 6, h => rw [if_neg (by omega)]; first | rfl | simp [mct, sI_fI, sL_fI, sR_fI]
  | 7, h => rw [if_neg (by omega)]; first | rfl | simp [mct, sI_fI, sL_fI, sR_fI]
  | 8, h => rw [if_neg (by omega)]; first | rfl | simp [mct, sI_fI, sL_fI, sR_fI]
  | 9, h => rw [if_neg (by omega)]; first | rfl | simp [mct, sI_fI, sL_fI, sR_fI]
  | 10, h => rw [if_neg (by omega)]; first | rfl | simp [mct, sI_fI, sL_fI, sR_fI]
  | 11, h => rw [if_neg (by omega)]; first | rfl | simp [mct, sI_fI, sL_fI, sR_fI]
  | 12, h =>
    have h : i' = 0 := h
    subst h
    rw [if_pos ⟨rfl, rfl⟩]
    first | rfl | (simp [mct, sI_fI, sL_fI, sR_fI]; done) | (simp [mct, sI_fI, sL_fI, sR_fI]; funext jj; by_cases hj : jj = j <;> simp [sI_fI, sL_fI, sR_fI, hj])
  | 13, h => rw [if_neg (by omega)]; first | rfl | simp [mct, sI_fI, sL_fI, sR_fI]
  | 14, h => rw [if_neg (by omega)]; first | rfl | simp [mct, sI_fI, sL_fI, sR_fI]
  | 15, h => rw [if_neg (by omega)]; first | rfl | simp [mct, sI_fI, sL_fI, sR_fI]
  | 16, h => rw [if_neg (by omega)]; first | rfl | simp [mct, sI_fI, sL_fI, sR_fI]
  | 17, h => rw [if_neg (by omega)]; first | rfl | simp [mct, sI_fI, sL_fI, sR_fI]
theorem mm_wI10 {cA : Nat → ClassId} {ad : Nat → Nat → Nat} {n : Nat} {σ : St} {j : Nat} {v : Int32} : ∀ t' i', mdom n σ t' i' → mct cA ad n (wI σ 10 0 j v) t' i' = if t' = 13 ∧ i' = 0 then .inl (cA 1, 24, .inl (upd (fun j => sI σ 10 0 j) j v)) else mct cA ad n σ t' i' := by
  intro t' i' h
  match t', h with
  | 0, h => rw [if_neg (by omega)]; first | rfl | simp [mct, sI_wI, sL_wI, sR_wI, upd]
  | 1, h => rw [if_neg (by omega)]; first | rfl | simp [mct, sI_wI, sL_wI, sR_wI, upd]
  | 2, h => rw [if_neg (by omega)]; first | rfl | simp [mct, sI_wI, sL_wI, sR_wI, upd]
  | 3, h => rw [if_neg (by omega)]; first | rfl | simp [mct, sI_wI, sL_wI, sR_wI, upd]
  | 4, h => rw [if_neg (by omega)]; first | rfl | simp [mct, sI_wI, sL_wI, sR_wI, upd]
  | 5, h => rw [if_neg (by omega)]; first | rfl | simp [mct, sI_wI, sL_wI, sR_wI, upd]
  | 6, h => rw [if_neg (by omega)]; first | rfl | simp [mct, sI_wI, sL_wI, sR_wI, upd]
  | 7, h => rw [if_neg (by omega)]; first | rfl | simp [mct, sI_wI, sL_wI, sR_wI, upd]
  | 8, h => rw [if_neg (by omega)]; first | rfl | simp [mct, sI_wI, sL_wI, sR_wI, upd]
  | 9, h => rw [if_neg (by omega)]; first | rfl | simp [mct, sI_wI, sL_wI, sR_wI, upd]
  | 10, h => rw [if_neg (by omega)]; first | rfl | simp [mct, sI_wI, sL_wI, sR_wI, upd]
  | 11, h => rw [if_neg (by omega)]; first | rfl | simp [mct, sI_wI, sL_wI, sR_wI, upd]
  | 12, h => rw [if_neg (by omega)]; first | rfl | simp [mct, sI_wI, sL_wI, sR_wI, upd]
  | 13, h =>
    have h : i' = 0 := h
    subst h
    rw [if_pos ⟨rfl, rfl⟩]
    first | rfl | (simp [mct, sI_wI, sL_wI, sR_wI, upd]; done) | (simp [mct, sI_wI, sL_wI, sR_wI, upd]; funext jj; by_cases hj : jj = j <;> simp [sI_wI, sL_wI, sR_wI, upd, hj])
  | 14, h => rw [if_neg (by omega)]; first | rfl | simp [mct, sI_wI, sL_wI, sR_wI, upd]
  | 15, h => rw [if_neg (by omega)]; first | rfl | simp [mct, sI_wI, sL_wI, sR_wI, upd]
  | 16, h => rw [if_neg (by omega)]; first | rfl | simp [mct, sI_wI, sL_wI, sR_wI, upd]
  | 17, h => rw [if_neg (by omega)]; first | rfl | simp [mct, sI_wI, sL_wI, sR_wI, upd]
theorem mm_fI10 {cA : Nat → ClassId} {ad : Nat → Nat → Nat} {n : Nat} {σ : St} {v : Int32} : ∀ t' i', mdom n σ t' i' → mct cA ad n (fI σ 10 0 v) t' i' = if t' = 13 ∧ i' = 0 then .inl (cA 1, 24, .inl (fun _ => v)) else mct cA ad n σ t' i' := by
  intro t' i' h
  match t', h with
  | 0, h => rw [if_neg (by omega)]; first | rfl | simp [mct, sI_fI, sL_fI, sR_fI]
  | 1, h => rw [if_neg (by omega)]; first | rfl | simp [mct, sI_fI, sL_fI, sR_fI]
  | 2, h => rw [if_neg (by omega)]; first | rfl | simp [mct, sI_fI, sL_fI, sR_fI]
  | 3, h => rw [if_neg (by omega)]; first | rfl | simp [mct, sI_fI, sL_fI, sR_fI]
  | 4, h => rw [if_neg (by omega)]; first | rfl | simp [mct, sI_fI, sL_fI, sR_fI]
  | 5, h => rw [if_neg (by omega)]; first | rfl | simp [mct, sI_fI, sL_fI, sR_fI]
  | 6, h => rw [if_neg (by omega)]; first | rfl | simp [mct, sI_fI, sL_fI, sR_fI]
  | 7, h => rw [if_neg (by omega)]; first | rfl | simp [mct, sI_fI, sL_fI, sR_fI]
  | 8, h => rw [if_neg (by omega)]; first | rfl | simp [mct, sI_fI, sL_fI, sR_fI]
  | 9, h => rw [if_neg (by omega)]; first | rfl | simp [mct, sI_fI, sL_fI, sR_fI]
  | 10, h => rw [if_neg (by omega)]; first | rfl | simp [mct, sI_fI, sL_fI, sR_fI]
  | 11, h => rw [if_neg (by omega)]; first | rfl | simp [mct, sI_fI, sL_fI, sR_fI]
  | 12, h => rw [if_neg (by omega)]; first | rfl | simp [mct, sI_fI, sL_fI, sR_fI]
  | 13, h =>
    have h : i' = 0 := h
    subst h
    rw [if_pos ⟨rfl, rfl⟩]
    first | rfl | (simp [mct, sI_fI, sL_fI, sR_fI]; done) | (simp [mct, sI_fI, sL_fI, sR_fI]; funext jj; by_cases hj : jj = j <;> simp [sI_fI, sL_fI, sR_fI, hj])
  | 14, h => rw [if_neg (by omega)]; first | rfl | simp [mct, sI_fI, sL_fI, sR_fI]
  | 15, h => rw [if_neg (by omega)]; first | rfl | simp [mct, sI_fI, sL_fI, sR_fI]
  | 16, h => rw [if_neg (by omega)]; first | rfl | simp [mct, sI_fI, sL_fI, sR_fI]
  | 17, h => rw [if_neg (by omega)]; first | rfl | simp [mct, sI_fI, sL_fI, sR_fI]
theorem mm_wI11 {cA : Nat → ClassId} {ad : Nat → Nat → Nat} {n : Nat} {σ : St} {j : Nat} {v : Int32} : ∀ t' i', mdom n σ t' i' → mct cA ad n (wI σ 11 0 j v) t' i' = if t' = 14 ∧ i' = 0 then .inl (cA 1, 4, .inl (upd (fun j => sI σ 11 0 j) j v)) else mct cA ad n σ t' i' := by
  intro t' i' h
  match t', h with
  | 0, h => rw [if_neg (by omega)]; first | rfl | simp [mct, sI_wI, sL_wI, sR_wI, upd]
  | 1, h => rw [if_neg (by omega)]; first | rfl | simp [mct, sI_wI, sL_wI, sR_wI, upd]
  | 2, h => rw [if_neg (by omega)]; first | rfl | simp [mct, sI_wI, sL_wI, sR_wI, upd]
  | 3, h => rw [if_neg (by omega)]; first | rfl | simp [mct, sI_wI, sL_wI, sR_wI, upd]
  | 4, h => rw [if_neg (by omega)]; first | rfl | simp [mct, sI_wI, sL_wI, sR_wI, upd]
  | 5, h => rw [if_neg (by omega)]; first | rfl | simp [mct, sI_wI, sL_wI, sR_wI, upd]
  | 6, h => rw [if_neg (by omega)]; first | rfl | simp [mct, sI_wI, sL_wI, sR_wI, upd]
  | 7, h => rw [if_neg (by omega)]; first | rfl | simp [mct, sI_wI, sL_wI, sR_wI, upd]
  | 8, h => rw [if_neg (by omega)]; first | rfl | simp [mct, sI_wI, sL_wI, sR_wI, upd]
  | 9, h => rw [if_neg (by omega)]; first | rfl | simp [mct, sI_wI, sL_wI, sR_wI, upd]
  | 10, h => rw [if_neg (by omega)]; first | rfl | simp [mct, sI_wI, sL_wI, sR_wI, upd]
  | 11, h => rw [if_neg (by omega)]; first | rfl | simp [mct, sI_wI, sL_wI, sR_wI, upd]
  | 12, h => rw [if_neg (by omega)]; first | rfl | simp [mct, sI_wI, sL_wI, sR_wI, upd]
  | 13, h => rw [if_neg (by omega)]; first | rfl | simp [mct, sI_wI, sL_wI, sR_wI, upd]
  | 14, h =>
    have h : i' = 0 := h
    subst h
    rw [if_pos ⟨rfl, rfl⟩]
    first | rfl | (simp [mct, sI_wI, sL_wI, sR_wI, upd]; done) | (simp [mct, sI_wI, sL_wI, sR_wI, upd]; funext jj; by_cases hj : jj = j <;> simp [sI_wI, sL_wI, sR_wI, upd, hj])
  | 15, h => rw [if_neg (by omega)]; first | rfl | simp [mct, sI_wI, sL_wI, sR_wI, upd]
  | 16, h => rw [if_neg (by omega)]; first | rfl | simp [mct, sI_wI, sL_wI, sR_wI, upd]
  | 17, h => rw [if_neg (by omega)]; first | rfl | simp [mct, sI_wI, sL_wI, sR_wI, upd]
theorem mm_fI11 {cA : Nat → ClassId} {ad : Nat → Nat → Nat} {n : Nat} {σ : St} {v : Int32} : ∀ t' i', mdom n σ t' i' → mct cA ad n (fI σ 11 0 v) t' i' = if t' = 14 ∧ i' = 0 then .inl (cA 1, 4, .inl (fun _ => v)) else mct cA ad n σ t' i' := by
  intro t' i' h
  match t', h with
  | 0, h => rw [if_neg (by omega)]; first | rfl | simp [mct, sI_fI, sL_fI, sR_fI]
  | 1, h => rw [if_neg (by omega)]; first | rfl | simp [mct, sI_fI, sL_fI, sR_fI]
  | 2, h => rw [if_neg (by omega)]; first | rfl | simp [mct, sI_fI, sL_fI, sR_fI]
  | 3, h => rw [if_neg (by omega)]; first | rfl | simp [mct, sI_fI, sL_fI, sR_fI]
  | 4, h => rw [if_neg (by omega)]; first | rfl | simp [mct, sI_fI, sL_fI, sR_fI]
  | 5, h => rw [if_neg (by omega)]; first | rfl | simp [mct, sI_fI, sL_fI, sR_fI]
  | 6, h => rw [if_neg (by omega)]; first | rfl | simp [mct, sI_fI, sL_fI, sR_fI]
  | 7, h => rw [if_neg (by omega)]; first | rfl | simp [mct, sI_fI, sL_fI, sR_fI]
  | 8, h => rw [if_neg (by omega)]; first | rfl | simp [mct, sI_fI, sL_fI, sR_fI]
  | 9, h => rw [if_neg (by omega)]; first | rfl | simp [mct, sI_fI, sL_fI, sR_fI]
  | 10, h => rw [if_neg (by omega)]; first | rfl | simp [mct, sI_fI, sL_fI, sR_fI]
  | 11, h => rw [if_neg (by omega)]; first | rfl | simp [mct, sI_fI, sL_fI, sR_fI]
  | 12, h => rw [if_neg (by omega)]; first | rfl | simp [mct, sI_fI, sL_fI, sR_fI]
  | 13, h => rw [if_neg (by omega)]; first | rfl | simp [mct, sI_fI, sL_fI, sR_fI]
  | 14, h =>
    have h : i' = 0 := h
    subst h
    rw [if_pos ⟨rfl, rfl⟩]
    first | rfl | (simp [mct, sI_fI, sL_fI, sR_fI]; done) | (simp [mct, sI_fI, sL_fI, sR_fI]; funext jj; by_cases hj : jj = j <;> simp [sI_fI, sL_fI, sR_fI, hj])
  | 15, h => rw [if_neg (by omega)]; first | rfl | simp [mct, sI_fI, sL_fI, sR_fI]
  | 16, h => rw [if_neg (by omega)]; first | rfl | simp [mct, sI_fI, sL_fI, sR_fI]
  | 17, h => rw [if_neg (by omega)]; first | rfl | simp [mct, sI_fI, sL_fI, sR_fI]
theorem mm_wL7 {cA : Nat → ClassId} {ad : Nat → Nat → Nat} {n : Nat} {σ : St} {j : Nat} {v : Int64} : ∀ t' i', mdom n σ t' i' → mct cA ad n (wL σ 7 0 j v) t' i' = if t' = 15 ∧ i' = 0 then .inl (cA 0, 4, .inr (.inl (vp_updL (fun j => sL σ 7 0 j) j v))) else mct cA ad n σ t' i' := by
  intro t' i' h
  match t', h with
  | 0, h => rw [if_neg (by omega)]; first | rfl | simp [mct, sI_wL, sL_wL, sR_wL, vp_updL]
  | 1, h => rw [if_neg (by omega)]; first | rfl | simp [mct, sI_wL, sL_wL, sR_wL, vp_updL]
  | 2, h => rw [if_neg (by omega)]; first | rfl | simp [mct, sI_wL, sL_wL, sR_wL, vp_updL]
  | 3, h => rw [if_neg (by omega)]; first | rfl | simp [mct, sI_wL, sL_wL, sR_wL, vp_updL]
  | 4, h => rw [if_neg (by omega)]; first | rfl | simp [mct, sI_wL, sL_wL, sR_wL, vp_updL]
  | 5, h => rw [if_neg (by omega)]; first | rfl | simp [mct, sI_wL, sL_wL, sR_wL, vp_updL]
  | 6, h => rw [if_neg (by omega)]; first | rfl | simp [mct, sI_wL, sL_wL, sR_wL, vp_updL]
  | 7, h => rw [if_neg (by omega)]; first | rfl | simp [mct, sI_wL, sL_wL, sR_wL, vp_updL]
  | 8, h => rw [if_neg (by omega)]; first | rfl | simp [mct, sI_wL, sL_wL, sR_wL, vp_updL]
  | 9, h => rw [if_neg (by omega)]; first | rfl | simp [mct, sI_wL, sL_wL, sR_wL, vp_updL]
  | 10, h => rw [if_neg (by omega)]; first | rfl | simp [mct, sI_wL, sL_wL, sR_wL, vp_updL]
  | 11, h => rw [if_neg (by omega)]; first | rfl | simp [mct, sI_wL, sL_wL, sR_wL, vp_updL]
  | 12, h => rw [if_neg (by omega)]; first | rfl | simp [mct, sI_wL, sL_wL, sR_wL, vp_updL]
  | 13, h => rw [if_neg (by omega)]; first | rfl | simp [mct, sI_wL, sL_wL, sR_wL, vp_updL]
  | 14, h => rw [if_neg (by omega)]; first | rfl | simp [mct, sI_wL, sL_wL, sR_wL, vp_updL]
  | 15, h =>
    have h : i' = 0 := h
    subst h
    rw [if_pos ⟨rfl, rfl⟩]
    first | rfl | (simp [mct, sI_wL, sL_wL, sR_wL, vp_updL]; done) | (simp [mct, sI_wL, sL_wL, sR_wL, vp_updL]; funext jj; by_cases hj : jj = j <;> simp [sI_wL, sL_wL, sR_wL, vp_updL, hj])
  | 16, h => rw [if_neg (by omega)]; first | rfl | simp [mct, sI_wL, sL_wL, sR_wL, vp_updL]
  | 17, h => rw [if_neg (by omega)]; first | rfl | simp [mct, sI_wL, sL_wL, sR_wL, vp_updL]
theorem mm_fL7 {cA : Nat → ClassId} {ad : Nat → Nat → Nat} {n : Nat} {σ : St} {v : Int64} : ∀ t' i', mdom n σ t' i' → mct cA ad n (fL σ 7 0 v) t' i' = if t' = 15 ∧ i' = 0 then .inl (cA 0, 4, .inr (.inl (fun _ => v))) else mct cA ad n σ t' i' := by
  intro t' i' h
  match t', h with
  | 0, h => rw [if_neg (by omega)]; first | rfl | simp [mct, sI_fL, sL_fL, sR_fL]
  | 1, h => rw [if_neg (by omega)]; first | rfl | simp [mct, sI_fL, sL_fL, sR_fL]
  | 2, h => rw [if_neg (by omega)]; first | rfl | simp [mct, sI_fL, sL_fL, sR_fL]
  | 3, h => rw [if_neg (by omega)]; first | rfl | simp [mct, sI_fL, sL_fL, sR_fL]
  | 4, h => rw [if_neg (by omega)]; first | rfl | simp [mct, sI_fL, sL_fL, sR_fL]
  | 5, h => rw [if_neg (by omega)]; first | rfl | simp [mct, sI_fL, sL_fL, sR_fL]
  | 6, h => rw [if_neg (by omega)]; first | rfl | simp [mct, sI_fL, sL_fL, sR_fL]
  | 7, h => rw [if_neg (by omega)]; first | rfl | simp [mct, sI_fL, sL_fL, sR_fL]
  | 8, h => rw [if_neg (by omega)]; first | rfl | simp [mct, sI_fL, sL_fL, sR_fL]
  | 9, h => rw [if_neg (by omega)]; first | rfl | simp [mct, sI_fL, sL_fL, sR_fL]
  | 10, h => rw [if_neg (by omega)]; first | rfl | simp [mct, sI_fL, sL_fL, sR_fL]
  | 11, h => rw [if_neg (by omega)]; first | rfl | simp [mct, sI_fL, sL_fL, sR_fL]
  | 12, h => rw [if_neg (by omega)]; first | rfl | simp [mct, sI_fL, sL_fL, sR_fL]
  | 13, h => rw [if_neg (by omega)]; first | rfl | simp [mct, sI_fL, sL_fL, sR_fL]
  | 14, h => rw [if_neg (by omega)]; first | rfl | simp [mct, sI_fL, sL_fL, sR_fL]
  | 15, h =>
    have h : i' = 0 := h
    subst h
    rw [if_pos ⟨rfl, rfl⟩]
    first | rfl | (simp [mct, sI_fL, sL_fL, sR_fL]; done) | (simp [mct, sI_fL, sL_fL, sR_fL]; funext jj; by_cases hj : jj = j <;> simp [sI_fL, sL_fL, sR_fL, hj])
  | 16, h => rw [if_neg (by omega)]; first | rfl | simp [mct, sI_fL, sL_fL, sR_fL]
  | 17, h => rw [if_neg (by omega)]; first | rfl | simp [mct, sI_fL, sL_fL, sR_fL]
theorem mm_wL8 {cA : Nat → ClassId} {ad : Nat → Nat → Nat} {n : Nat} {σ : St} {j : Nat} {v : Int64} : ∀ t' i', mdom n σ t' i' → mct cA ad n (wL σ 8 0 j v) t' i' = if t' = 16 ∧ i' = 0 then .inl (cA 0, 16, .inr (.inl (vp_updL (fun j => sL σ 8 0 j) j v))) else mct cA ad n σ t' i' := by
  intro t' i' h
  match t', h with
  | 0, h => rw [if_neg (by omega)]; first | rfl | simp [mct, sI_wL, sL_wL, sR_wL, vp_updL]
  | 1, h => rw [if_neg (by omega)]; first | rfl | simp [mct, sI_wL, sL_wL, sR_wL, vp_updL]
  | 2, h => rw [if_neg (by omega)]; first | rfl | simp [mct, sI_wL, sL_wL, sR_wL, vp_updL]
  | 3, h => rw [if_neg (by omega)]; first | rfl | simp [mct, sI_wL, sL_wL, sR_wL, vp_updL]
  | 4, h => rw [if_neg (by omega)]; first | rfl | simp [mct, sI_wL, sL_wL, sR_wL, vp_updL]
  | 5, h => rw [if_neg (by omega)]; first | rfl | simp [mct, sI_wL, sL_wL, sR_wL, vp_updL]
  | 6, h => rw [if_neg (by omega)]; first | rfl | simp [mct, sI_wL, sL_wL, sR_wL, vp_updL]
  | 7, h => rw [if_neg (by omega)]; first | rfl | simp [mct, sI_wL, sL_wL, sR_wL, vp_updL]
  | 8, h => rw [if_neg (by omega)]; first | rfl | simp [mct, sI_wL, sL_wL, sR_wL, vp_updL]
  | 9, h => rw [if_neg (by omega)]; first | rfl | simp [mct, sI_wL, sL_wL, sR_wL, vp_updL]
  | 10, h => rw [if_neg (by omega)]; first | rfl | simp [mct, sI_wL, sL_wL, sR_wL, vp_updL]
  | 11, h => rw [if_neg (by omega)]; first | rfl | simp [mct, sI_wL, sL_wL, sR_wL, vp_updL]
  | 12, h => rw [if_neg (by omega)]; first | rfl | simp [mct, sI_wL, sL_wL, sR_wL, vp_updL]
  | 13, h => rw [if_neg (by omega)]; first | rfl | simp [mct, sI_wL, sL_wL, sR_wL, vp_updL]
  | 14, h => rw [if_neg (by omega)]; first | rfl | simp [mct, sI_wL, sL_wL, sR_wL, vp_updL]
  | 15, h => rw [if_neg (by omega)]; first | rfl | simp [mct, sI_wL, sL_wL, sR_wL, vp_updL]
  | 16, h =>
    have h : i' = 0 := h
    subst h
    rw [if_pos ⟨rfl, rfl⟩]
    first | rfl | (simp [mct, sI_wL, sL_wL, sR_wL, vp_updL]; done) | (simp [mct, sI_wL, sL_wL, sR_wL, vp_updL]; funext jj; by_cases hj : jj = j <;> simp [sI_wL, sL_wL, sR_wL, vp_updL, hj])
  | 17, h => rw [if_neg (by omega)]; first | rfl | simp [mct, sI_wL, sL_wL, sR_wL, vp_updL]
theorem mm_fL8 {cA : Nat → ClassId} {ad : Nat → Nat → Nat} {n : Nat} {σ : St} {v : Int64} : ∀ t' i', mdom n σ t' i' → mct cA ad n (fL σ 8 0 v) t' i' = if t' = 16 ∧ i' = 0 then .inl (cA 0, 16, .inr (.inl (fun _ => v))) else mct cA ad n σ t' i' := by
  intro t' i' h
  match t', h with
  | 0, h => rw [if_neg (by omega)]; first | rfl | simp [mct, sI_fL, sL_fL, sR_fL]
  | 1, h => rw [if_neg (by omega)]; first | rfl | simp [mct, sI_fL, sL_fL, sR_fL]
  | 2, h => rw [if_neg (by omega)]; first | rfl | simp [mct, sI_fL, sL_fL, sR_fL]
  | 3, h => rw [if_neg (by omega)]; first | rfl | simp [mct, sI_fL, sL_fL, sR_fL]
  | 4, h => rw [if_neg (by omega)]; first | rfl | simp [mct, sI_fL, sL_fL, sR_fL]
  | 5, h => rw [if_neg (by omega)]; first | rfl | simp [mct, sI_fL, sL_fL, sR_fL]
  | 6, h => rw [if_neg (by omega)]; first | rfl | simp [mct, sI_fL, sL_fL, sR_fL]
  | 7, h => rw [if_neg (by omega)]; first | rfl | simp [mct, sI_fL, sL_fL, sR_fL]
  | 8, h => rw [if_neg (by omega)]; first | rfl | simp [mct, sI_fL, sL_fL, sR_fL]
  | 9, h => rw [if_neg (by omega)]; first | rfl | simp [mct, sI_fL, sL_fL, sR_fL]
  | 10, h => rw [if_neg (by omega)]; first | rfl | simp [mct, sI_fL, sL_fL, sR_fL]
  | 11, h => rw [if_neg (by omega)]; first | rfl | simp [mct, sI_fL, sL_fL, sR_fL]
  | 12, h => rw [if_neg (by omega)]; first | rfl | simp [mct, sI_fL, sL_fL, sR_fL]
  | 13, h => rw [if_neg (by omega)]; first | rfl | simp [mct, sI_fL, sL_fL, sR_fL]
  | 14, h => rw [if_neg (by omega)]; first | rfl | simp [mct, sI_fL, sL_fL, sR_fL]
  | 15, h => rw [if_neg (by omega)]; first | rfl | simp [mct, sI_fL, sL_fL, sR_fL]
  | 16, h =>
    have h : i' = 0 := h
    subst h
    rw [if_pos ⟨rfl, rfl⟩]
    first | rfl | (simp [mct, sI_fL, sL_fL, sR_fL]; done) | (simp [mct, sI_fL, sL_fL, sR_fL]; funext jj; by_cases hj : jj = j <;> simp [sI_fL, sL_fL, sR_fL, hj])
  | 17, h => rw [if_neg (by omega)]; first | rfl | simp [mct, sI_fL, sL_fL, sR_fL]
theorem mm_wI12 {cA : Nat → ClassId} {ad : Nat → Nat → Nat} {n : Nat} {σ : St} {j : Nat} {v : Int32} : ∀ t' i', mdom n σ t' i' → mct cA ad n (wI σ 12 0 j v) t' i' = if t' = 17 ∧ i' = 0 then .inl (cA 1, 4, .inl (upd (fun j => sI σ 12 0 j) j v)) else mct cA ad n σ t' i' := by
  intro t' i' h
  match t', h with
  | 0, h => rw [if_neg (by omega)]; first | rfl | simp [mct, sI_wI, sL_wI, sR_wI, upd]
  | 1, h => rw [if_neg (by omega)]; first | rfl | simp [mct, sI_wI, sL_wI, sR_wI, upd]
  | 2, h => rw [if_neg (by omega)]; first | rfl | simp [mct, sI_wI, sL_wI, sR_wI, upd]
  | 3, h => rw [if_neg (by omega)]; first | rfl | simp [mct, sI_wI, sL_wI, sR_wI, upd]
  | 4, h => rw [if_neg (by omega)]; first | rfl | simp [mct, sI_wI, sL_wI, sR_wI, upd]
  | 5, h => rw [if_neg (by omega)]; first | rfl | simp [mct, sI_wI, sL_wI, sR_wI, upd]
  | 6, h => rw [if_neg (by omega)]; first | rfl | simp [mct, sI_wI, sL_wI, sR_wI, upd]
  | 7, h => rw [if_neg (by omega)]; first | rfl | simp [mct, sI_wI, sL_wI, sR_wI, upd]
  | 8, h => rw [if_neg (by omega)]; first | rfl | simp [mct, sI_wI, sL_wI, sR_wI, upd]
  | 9, h => rw [if_neg (by omega)]; first | rfl | simp [mct, sI_wI, sL_wI, sR_wI, upd]
  | 10, h => rw [if_neg (by omega)]; first | rfl | simp [mct, sI_wI, sL_wI, sR_wI, upd]
  | 11, h => rw [if_neg (by omega)]; first | rfl | simp [mct, sI_wI, sL_wI, sR_wI, upd]
  | 12, h => rw [if_neg (by omega)]; first | rfl | simp [mct, sI_wI, sL_wI, sR_wI, upd]
  | 13, h => rw [if_neg (by omega)]; first | rfl | simp [mct, sI_wI, sL_wI, sR_wI, upd]
  | 14, h => rw [if_neg (by omega)]; first | rfl | simp [mct, sI_wI, sL_wI, sR_wI, upd]
  | 15, h => rw [if_neg (by omega)]; first | rfl | simp [mct, sI_wI, sL_wI, sR_wI, upd]
  | 16, h => rw [if_neg (by omega)]; first | rfl | simp [mct, sI_wI, sL_wI, sR_wI, upd]
  | 17, h =>
    have h : i' = 0 := h
    subst h
    rw [if_pos ⟨rfl, rfl⟩]
    first | rfl | (simp [mct, sI_wI, sL_wI, sR_wI, upd]; done) | (simp [mct, sI_wI, sL_wI, sR_wI, upd]; funext jj; by_cases hj : jj = j <;> simp [sI_wI, sL_wI, sR_wI, upd, hj])
theorem mm_fI12 {cA : Nat → ClassId} {ad : Nat → Nat → Nat} {n : Nat} {σ : St} {v : Int32} : ∀ t' i', mdom n σ t' i' → mct cA ad n (fI σ 12 0 v) t' i' = if t' = 17 ∧ i' = 0 then .inl (cA 1, 4, .inl (fun _ => v)) else mct cA ad n σ t' i' := by
  intro t' i' h
  match t', h with
  | 0, h => rw [if_neg (by omega)]; first | rfl | simp [mct, sI_fI, sL_fI, sR_fI]
  | 1, h => rw [if_neg (by omega)]; first | rfl | simp [mct, sI_fI, sL_fI, sR_fI]
  | 2, h => rw [if_neg (by omega)]; first | rfl | simp [mct, sI_fI, sL_fI, sR_fI]
  | 3, h => rw [if_neg (by omega)]; first | rfl | simp [mct, sI_fI, sL_fI, sR_fI]
  | 4, h => rw [if_neg (by omega)]; first | rfl | simp [mct, sI_fI, sL_fI, sR_fI]
  | 5, h => rw [if_neg (by omega)]; first | rfl | simp [mct, sI_fI, sL_fI, sR_fI]
  | 6, h => rw [if_neg (by omega)]; first | rfl | simp [mct, sI_fI, sL_fI, sR_fI]
  | 7, h => rw [if_neg (by omega)]; first | rfl | simp [mct, sI_fI, sL_fI, sR_fI]
  | 8, h => rw [if_neg (by omega)]; first | rfl | simp [mct, sI_fI, sL_fI, sR_fI]
  | 9, h => rw [if_neg (by omega)]; first | rfl | simp [mct, sI_fI, sL_fI, sR_fI]
  | 10, h => rw [if_neg (by omega)]; first | rfl | simp [mct, sI_fI, sL_fI, sR_fI]
  | 11, h => rw [if_neg (by omega)]; first | rfl | simp [mct, sI_fI, sL_fI, sR_fI]
  | 12, h => rw [if_neg (by omega)]; first | rfl | simp [mct, sI_fI, sL_fI, sR_fI]
  | 13, h => rw [if_neg (by omega)]; first | rfl | simp [mct, sI_fI, sL_fI, sR_fI]
  | 14, h => rw [if_neg (by omega)]; first | rfl | simp [mct, sI_fI, sL_fI, sR_fI]
  | 15, h => rw [if_neg (by omega)]; first | rfl | simp [mct, sI_fI, sL_fI, sR_fI]
  | 16, h => rw [if_neg (by omega)]; first | rfl | simp [mct, sI_fI, sL_fI, sR_fI]
  | 17, h =>
    have h : i' = 0 := h
    subst h
    rw [if_pos ⟨rfl, rfl⟩]
    first | rfl | (simp [mct, sI_fI, sL_fI, sR_fI]; done) | (simp [mct, sI_fI, sL_fI, sR_fI]; funext jj; by_cases hj : jj = j <;> simp [sI_fI, sL_fI, sR_fI, hj])
