/-! the class, as its constructor makes it -/
def g_X8_init (ct : Nat → ClassId) (q : Nat) : Nat → Option va_E := upO (orO (upO (upO (orO (upO (upO (upO (upO (upO (upO (upO (upO (upO (orO (upO (upO (orO (upO (upO (orO (upO (upO (orO (upO (upO (orO (upO (upO (orO (upO (upO (orO (upO (upO (orO (upO (upO (upO (orO (upO (upO noO 0 (.inr (8, [.null, .int 0, .null, .null, .null, .null, .null, .null, .null, .null, .null, .null, .null, .int 0]))) 1 (.inr (5, [.null, .null, .int 0, .int 0, .int 0]))) 1 (g_X5_init ct (q + 1))) 0 (.inr (8, [.ref (q + 1), .int 0, .null, .null, .null, .null, .null, .null, .null, .null, .null, .null, .null, .int 0]))) 0 (.inr (8, [.ref (q + 1), .int (iI (-1)), .null, .null, .null, .null, .null, .null, .null, .null, .null, .null, .null, .int 0]))) 21 (.inr (0, [.int 0, .int 0, .null, .null, .null, .null]))) 21 (g_X0_init ct (q + 21))) 0 (.inr (8, [.ref (q + 1), .int (iI (-1)), .ref (q + 21), .null, .null, .null, .null, .null, .null, .null, .null, .null, .null, .int 0]))) 34 (.inr (3, [.null, .null, .int 0, .int 0, .long 0]))) 34 (g_X3_init ct (q + 34))) 0 (.inr (8, [.ref (q + 1), .int (iI (-1)), .ref (q + 21), .ref (q + 34), .null, .null, .null, .null, .null, .null, .null, .null, .null, .int 0]))) 47 (.inr (0, [.int 0, .int 0, .null, .null, .null, .null]))) 47 (g_X0_init ct (q + 47))) 0 (.inr (8, [.ref (q + 1), .int (iI (-1)), .ref (q + 21), .ref (q + 34), .ref (q + 47), .null, .null, .null, .null, .null, .null, .null, .null, .int 0]))) 60 (.inr (3, [.null, .null, .int 0, .int 0, .long 0]))) 60 (g_X3_init ct (q + 60))) 0 (.inr (8, [.ref (q + 1), .int (iI (-1)), .ref (q + 21), .ref (q + 34), .ref (q + 47), .ref (q + 60), .null, .null, .null, .null, .null, .null, .null, .int 0]))) 73 (.inr (1, [.null, .null, .null, .null, .int 0]))) 73 (g_X1_init ct (q + 73))) 0 (.inr (8, [.ref (q + 1), .int (iI (-1)), .ref (q + 21), .ref (q + 34), .ref (q + 47), .ref (q + 60), .ref (q + 73), .null, .null, .null, .null, .null, .null, .int 0]))) 78 (.inr (1, [.null, .null, .null, .null, .int 0]))) 78 (g_X1_init ct (q + 78))) 0 (.inr (8, [.ref (q + 1), .int (iI (-1)), .ref (q + 21), .ref (q + 34), .ref (q + 47), .ref (q + 60), .ref (q + 73), .ref (q + 78), .null, .null, .null, .null, .null, .int 0]))) 83 (.inr (4, [.long 0, .int 0]))) 83 (g_X4_init ct (q + 83))) 0 (.inr (8, [.ref (q + 1), .int (iI (-1)), .ref (q + 21), .ref (q + 34), .ref (q + 47), .ref (q + 60), .ref (q + 73), .ref (q + 78), .ref (q + 83), .null, .null, .null, .null, .int 0]))) 84 (.inr (2, [.null, .int 0]))) 84 (g_X2_init ct (q + 84))) 0 (.inr (8, [.ref (q + 1), .int (iI (-1)), .ref (q + 21), .ref (q + 34), .ref (q + 47), .ref (q + 60), .ref (q + 73), .ref (q + 78), .ref (q + 83), .ref (q + 84), .null, .null, .null, .int 0]))) 190 (.inl (ct 4, 2, .inr (.inr (.inr (.inr (fun _ => none))))))) 0 (.inr (8, [.ref (q + 1), .int (iI (-1)), .ref (q + 21), .ref (q + 34), .ref (q + 47), .ref (q + 60), .ref (q + 73), .ref (q + 78), .ref (q + 83), .ref (q + 84), .ref (q + 190), .null, .null, .int 0]))) 191 (.inl (ct 3, (2, .inl (fun _ => 0))))) 0 (.inr (8, [.ref (q + 1), .int (iI (-1)), .ref (q + 21), .ref (q + 34), .ref (q + 47), .ref (q + 60), .ref (q + 73), .ref (q + 78), .ref (q + 83), .ref (q + 84), .ref (q + 190), .ref (q + 191), .null, .int 0]))) 192 (.inl (ct 2, (31, .inl (fun _ => 0))))) 0 (.inr (8, [.ref (q + 1), .int (iI (-1)), .ref (q + 21), .ref (q + 34), .ref (q + 47), .ref (q + 60), .ref (q + 73), .ref (q + 78), .ref (q + 83), .ref (q + 84), .ref (q + 190), .ref (q + 191), .ref (q + 192), .int 0]))) 0 (.inr (8, [.ref (q + 1), .int (iI (-1)), .ref (q + 21), .ref (q + 34), .ref (q + 47), .ref (q + 60), .ref (q + 73), .ref (q + 78), .ref (q + 83), .ref (q + 84), .ref (q + 190), .ref (q + 191), .ref (q + 192), .int (iI 0)]))) 193 (.inr (0, [.int 0, .int 0, .null, .null, .null, .null]))) 193 (g_X0_init ct (q + 193))) 190 (.inl (ct 4, 2, .inr (.inr (.inr (.inr (va_up (fun _ => none) 0 (some (q + 193))))))))) 206 (.inr (0, [.int 0, .int 0, .null, .null, .null, .null]))) 206 (g_X0_init ct (q + 206))) 190 (.inl (ct 4, 2, .inr (.inr (.inr (.inr (va_up (va_up (fun _ => none) 0 (some (q + 193))) 1 (some (q + 206))))))))
def qb8 (b : Int) : Nat := if b = 0 then 21 else if b = 1 then 47 else if b = 2 then 8 else if b = 3 then 193 else if b = 4 then 206 else 86 + 13 * (b - 5).toNat
def ql8 (o : Int) : Nat := if o = 0 then 34 else 60
def qf8 (o : Int) : Nat := if o = 0 then 73 else 78
def off8 (K : Nat) (i : Int) : Nat :=
  if K = 0 then qb8 i else if K = 6 then qb8 (i / 4) + 1 + 3 * (i % 4).toNat else if K = 10 then qb8 (i / 4) + 2 + 3 * (i % 4).toNat else if K = 11 then qb8 (i / 4) + 3 + 3 * (i % 4).toNat else
  if K = 1 then qf8 i else if K = 12 then qf8 i + 1 else if K = 13 then qf8 i + 2 else if K = 14 then qf8 i + 3 else if K = 15 then qf8 i + 4 else
  if K = 2 then 84 else if K = 16 then 85 else if K = 3 then ql8 i else if K = 17 then ql8 i + 1 else if K = 18 then ql8 (i / 5) + 2 + (i % 5).toNat else if K = 19 then ql8 i + 7 else if K = 20 then ql8 (i / 5) + 8 + (i % 5).toNat else
  if K = 4 then 83 else if K = 5 then 1 else if K = 7 then 2 else if K = 26 then 190 else if K = 27 then 191 else if K = 28 then 192 else if K = 8 then 0 else K - 18
def i8 : St := fun K s i j => if K = 0 ∧ s = 0 then 2 else if K = 0 ∧ s = 1 then 1 else if K = 3 ∧ s = 4 then 1 else if K = 5 ∧ s = 4 then -1 else if K = 8 ∧ s = 1 then -1 else if K = 16 then 5 + j else 0
set_option maxRecDepth 20000 in
theorem at8_0 {D : va_G} {ct : Nat → ClassId} {q : Nat} {H : Heap} (hF : HPo D q (g_X8_init ct q) H) {i : Int} (h0 : 0 ≤ i) (h1 : i < 13) : va_at D vwCl (q + off8 0 i, cel ct (fun K i => q + off8 K i) 0 i i8) H := by
  obtain ⟨n, rfl⟩ : ∃ n : Nat, i = (n : Int) := ⟨i.toNat, by omega⟩
  have hn : n < 13 := by omega
  clear h0 h1
  match n, hn with
  | 0, _ => exact hF 21 _ rfl
  | 1, _ => exact hF 47 _ rfl
  | 2, _ => exact hF 8 _ rfl
  | 3, _ => exact hF 193 _ rfl
  | 4, _ => exact hF 206 _ rfl
  | 5, _ => exact hF 86 _ rfl
  | 6, _ => exact hF 99 _ rfl
  | 7, _ => exact hF 112 _ rfl
  | 8, _ => exact hF 125 _ rfl
  | 9, _ => exact hF 138 _ rfl
  | 10, _ => exact hF 151 _ rfl
  | 11, _ => exact hF 164 _ rfl
  | 12, _ => exact hF 177 _ rfl
  | n + 13, h9 => exact absurd h9 (Nat.not_lt.mpr (Nat.le_add_left _ _))
set_option maxRecDepth 20000 in
theorem at8_1 {D : va_G} {ct : Nat → ClassId} {q : Nat} {H : Heap} (hF : HPo D q (g_X8_init ct q) H) {i : Int} (h0 : 0 ≤ i) (h1 : i < 2) : va_at D vwCl (q + off8 1 i, cel ct (fun K i => q + off8 K i) 1 i i8) H := by
  obtain ⟨n, rfl⟩ : ∃ n : Nat, i = (n : Int) := ⟨i.toNat, by omega⟩
  have hn : n < 2 := by omega
  clear h0 h1
  match n, hn with
  | 0, _ => exact hF 73 _ rfl
  | 1, _ => exact hF 78 _ rfl
  | n + 2, h9 => exact absurd h9 (Nat.not_lt.mpr (Nat.le_add_left _ _))
set_option maxRecDepth 20000 in
theorem at8_2 {D : va_G} {ct : Nat → ClassId} {q : Nat} {H : Heap} (hF : HPo D q (g_X8_init ct q) H) {i : Int} (h0 : 0 ≤ i) (h1 : i < 1) : va_at D vwCl (q + off8 2 i, cel ct (fun K i => q + off8 K i) 2 i i8) H := by
  obtain ⟨n, rfl⟩ : ∃ n : Nat, i = (n : Int) := ⟨i.toNat, by omega⟩
  have hn : n < 1 := by omega
  clear h0 h1
  match n, hn with
  | 0, _ => exact hF 84 _ rfl
  | n + 1, h9 => exact absurd h9 (Nat.not_lt.mpr (Nat.le_add_left _ _))
set_option maxRecDepth 20000 in
theorem at8_3 {D : va_G} {ct : Nat → ClassId} {q : Nat} {H : Heap} (hF : HPo D q (g_X8_init ct q) H) {i : Int} (h0 : 0 ≤ i) (h1 : i < 2) : va_at D vwCl (q + off8 3 i, cel ct (fun K i => q + off8 K i) 3 i i8) H := by
  obtain ⟨n, rfl⟩ : ∃ n : Nat, i = (n : Int) := ⟨i.toNat, by omega⟩
  have hn : n < 2 := by omega
  clear h0 h1
  match n, hn with
  | 0, _ => exact hF 34 _ rfl
  | 1, _ => exact hF 60 _ rfl
  | n + 2, h9 => exact absurd h9 (Nat.not_lt.mpr (Nat.le_add_left _ _))
set_option maxRecDepth 20000 in
theorem at8_4 {D : va_G} {ct : Nat → ClassId} {q : Nat} {H : Heap} (hF : HPo D q (g_X8_init ct q) H) {i : Int} (h0 : 0 ≤ i) (h1 : i < 1) : va_at D vwCl (q + off8 4 i, cel ct (fun K i => q + off8 K i) 4 i i8) H := by
  obtain ⟨n, rfl⟩ : ∃ n : Nat, i = (n : Int) := ⟨i.toNat, by omega⟩
  have hn : n < 1 := by omega
  clear h0 h1
  match n, hn with
  | 0, _ => exact hF 83 _ rfl
  | n + 1, h9 => exact absurd h9 (Nat.not_lt.mpr (Nat.le_add_left _ _))
set_option maxRecDepth 20000 in
theorem at8_5 {D : va_G} {ct : Nat → ClassId} {q : Nat} {H : Heap} (hF : HPo D q (g_X8_init ct q) H) {i : Int} (h0 : 0 ≤ i) (h1 : i < 1) : va_at D vwCl (q + off8 5 i, cel ct (fun K i => q + off8 K i) 5 i i8) H := by
  obtain ⟨n, rfl⟩ : ∃ n : Nat, i = (n : Int) := ⟨i.toNat, by omega⟩
  have hn : n < 1 := by omega
  clear h0 h1
  match n, hn with
  | 0, _ => exact hF 1 _ rfl
  | n + 1, h9 => exact absurd h9 (Nat.not_lt.mpr (Nat.le_add_left _ _))
set_option maxRecDepth 20000 in
theorem at8_6 {D : va_G} {ct : Nat → ClassId} {q : Nat} {H : Heap} (hF : HPo D q (g_X8_init ct q) H) {i : Int} (h0 : 0 ≤ i) (h1 : i < 52) : va_at D vwCl (q + off8 6 i, cel ct (fun K i => q + off8 K i) 6 i i8) H := by
  obtain ⟨n, rfl⟩ : ∃ n : Nat, i = (n : Int) := ⟨i.toNat, by omega⟩
  have hn : n < 52 := by omega
  clear h0 h1
  match n, hn with
  | 0, _ => exact hF 22 _ rfl
  | 1, _ => exact hF 25 _ rfl
  | 2, _ => exact hF 28 _ rfl
  | 3, _ => exact hF 31 _ rfl
  | 4, _ => exact hF 48 _ rfl
  | 5, _ => exact hF 51 _ rfl
  | 6, _ => exact hF 54 _ rfl
  | 7, _ => exact hF 57 _ rfl
  | 8, _ => exact hF 9 _ rfl
  | 9, _ => exact hF 12 _ rfl
  | 10, _ => exact hF 15 _ rfl
  | 11, _ => exact hF 18 _ rfl
  | 12, _ => exact hF 194 _ rfl
  | 13, _ => exact hF 197 _ rfl
  | 14, _ => exact hF 200 _ rfl
  | 15, _ => exact hF 203 _ rfl
  | 16, _ => exact hF 207 _ rfl
  | 17, _ => exact hF 210 _ rfl
  | 18, _ => exact hF 213 _ rfl
  | 19, _ => exact hF 216 _ rfl
  | 20, _ => exact hF 87 _ rfl
  | 21, _ => exact hF 90 _ rfl
  | 22, _ => exact hF 93 _ rfl
  | 23, _ => exact hF 96 _ rfl
  | 24, _ => exact hF 100 _ rfl
  | 25, _ => exact hF 103 _ rfl
  | 26, _ => exact hF 106 _ rfl
  | 27, _ => exact hF 109 _ rfl
  | 28, _ => exact hF 113 _ rfl
  | 29, _ => exact hF 116 _ rfl
  | 30, _ => exact hF 119 _ rfl
  | 31, _ => exact hF 122 _ rfl
  | 32, _ => exact hF 126 _ rfl
  | 33, _ => exact hF 129 _ rfl
  | 34, _ => exact hF 132 _ rfl
  | 35, _ => exact hF 135 _ rfl
  | 36, _ => exact hF 139 _ rfl
  | 37, _ => exact hF 142 _ rfl
  | 38, _ => exact hF 145 _ rfl
  | 39, _ => exact hF 148 _ rfl
  | 40, _ => exact hF 152 _ rfl
  | 41, _ => exact hF 155 _ rfl
  | 42, _ => exact hF 158 _ rfl
  | 43, _ => exact hF 161 _ rfl
  | 44, _ => exact hF 165 _ rfl
  | 45, _ => exact hF 168 _ rfl
  | 46, _ => exact hF 171 _ rfl
  | 47, _ => exact hF 174 _ rfl
  | 48, _ => exact hF 178 _ rfl
  | 49, _ => exact hF 181 _ rfl
  | 50, _ => exact hF 184 _ rfl
  | 51, _ => exact hF 187 _ rfl
  | n + 52, h9 => exact absurd h9 (Nat.not_lt.mpr (Nat.le_add_left _ _))
set_option maxRecDepth 20000 in
theorem at8_7 {D : va_G} {ct : Nat → ClassId} {q : Nat} {H : Heap} (hF : HPo D q (g_X8_init ct q) H) {i : Int} (h0 : 0 ≤ i) (h1 : i < 1) : va_at D vwCl (q + off8 7 i, cel ct (fun K i => q + off8 K i) 7 i i8) H := by
  obtain ⟨n, rfl⟩ : ∃ n : Nat, i = (n : Int) := ⟨i.toNat, by omega⟩
  have hn : n < 1 := by omega
  clear h0 h1
  match n, hn with
  | 0, _ => exact hF 2 _ rfl
  | n + 1, h9 => exact absurd h9 (Nat.not_lt.mpr (Nat.le_add_left _ _))
set_option maxRecDepth 20000 in
theorem at8_8 {D : va_G} {ct : Nat → ClassId} {q : Nat} {H : Heap} (hF : HPo D q (g_X8_init ct q) H) {i : Int} (h0 : 0 ≤ i) (h1 : i < 1) : va_at D vwCl (q + off8 8 i, cel ct (fun K i => q + off8 K i) 8 i i8) H := by
  obtain ⟨n, rfl⟩ : ∃ n : Nat, i = (n : Int) := ⟨i.toNat, by omega⟩
  have hn : n < 1 := by omega
  clear h0 h1
  match n, hn with
  | 0, _ => exact hF 0 _ rfl
  | n + 1, h9 => exact absurd h9 (Nat.not_lt.mpr (Nat.le_add_left _ _))
set_option maxRecDepth 20000 in
theorem at8_10 {D : va_G} {ct : Nat → ClassId} {q : Nat} {H : Heap} (hF : HPo D q (g_X8_init ct q) H) {i : Int} (h0 : 0 ≤ i) (h1 : i < 52) : va_at D vwCl (q + off8 10 i, cel ct (fun K i => q + off8 K i) 10 i i8) H := by
  obtain ⟨n, rfl⟩ : ∃ n : Nat, i = (n : Int) := ⟨i.toNat, by omega⟩
  have hn : n < 52 := by omega
  clear h0 h1
  match n, hn with
  | 0, _ => exact hF 23 _ rfl
  | 1, _ => exact hF 26 _ rfl
  | 2, _ => exact hF 29 _ rfl
  | 3, _ => exact hF 32 _ rfl
  | 4, _ => exact hF 49 _ rfl
  | 5, _ => exact hF 52 _ rfl
  | 6, _ => exact hF 55 _ rfl
  | 7, _ => exact hF 58 _ rfl
  | 8, _ => exact hF 10 _ rfl
  | 9, _ => exact hF 13 _ rfl
  | 10, _ => exact hF 16 _ rfl
  | 11, _ => exact hF 19 _ rfl
  | 12, _ => exact hF 195 _ rfl
  | 13, _ => exact hF 198 _ rfl
  | 14, _ => exact hF 201 _ rfl
  | 15, _ => exact hF 204 _ rfl
  | 16, _ => exact hF 208 _ rfl
  | 17, _ => exact hF 211 _ rfl
  | 18, _ => exact hF 214 _ rfl
  | 19, _ => exact hF 217 _ rfl
  | 20, _ => exact hF 88 _ rfl
  | 21, _ => exact hF 91 _ rfl
  | 22, _ => exact hF 94 _ rfl
  | 23, _ => exact hF 97 _ rfl
  | 24, _ => exact hF 101 _ rfl
  | 25, _ => exact hF 104 _ rfl
  | 26, _ => exact hF 107 _ rfl
  | 27, _ => exact hF 110 _ rfl
  | 28, _ => exact hF 114 _ rfl
  | 29, _ => exact hF 117 _ rfl
  | 30, _ => exact hF 120 _ rfl
  | 31, _ => exact hF 123 _ rfl
  | 32, _ => exact hF 127 _ rfl
  | 33, _ => exact hF 130 _ rfl
  | 34, _ => exact hF 133 _ rfl
  | 35, _ => exact hF 136 _ rfl
  | 36, _ => exact hF 140 _ rfl
  | 37, _ => exact hF 143 _ rfl
  | 38, _ => exact hF 146 _ rfl
  | 39, _ => exact hF 149 _ rfl
  | 40, _ => exact hF 153 _ rfl
  | 41, _ => exact hF 156 _ rfl
  | 42, _ => exact hF 159 _ rfl
  | 43, _ => exact hF 162 _ rfl
  | 44, _ => exact hF 166 _ rfl
  | 45, _ => exact hF 169 _ rfl
  | 46, _ => exact hF 172 _ rfl
  | 47, _ => exact hF 175 _ rfl
  | 48, _ => exact hF 179 _ rfl
  | 49, _ => exact hF 182 _ rfl
  | 50, _ => exact hF 185 _ rfl
  | 51, _ => exact hF 188 _ rfl
  | n + 52, h9 => exact absurd h9 (Nat.not_lt.mpr (Nat.le_add_left _ _))
set_option maxRecDepth 20000 in
theorem at8_11 {D : va_G} {ct : Nat → ClassId} {q : Nat} {H : Heap} (hF : HPo D q (g_X8_init ct q) H) {i : Int} (h0 : 0 ≤ i) (h1 : i < 52) : va_at D vwCl (q + off8 11 i, cel ct (fun K i => q + off8 K i) 11 i i8) H := by
  obtain ⟨n, rfl⟩ : ∃ n : Nat, i = (n : Int) := ⟨i.toNat, by omega⟩
  have hn : n < 52 := by omega
  clear h0 h1
  match n, hn with
  | 0, _ => exact hF 24 _ rfl
  | 1, _ => exact hF 27 _ rfl
  | 2, _ => exact hF 30 _ rfl
  | 3, _ => exact hF 33 _ rfl
  | 4, _ => exact hF 50 _ rfl
  | 5, _ => exact hF 53 _ rfl
  | 6, _ => exact hF 56 _ rfl
  | 7, _ => exact hF 59 _ rfl
  | 8, _ => exact hF 11 _ rfl
  | 9, _ => exact hF 14 _ rfl
  | 10, _ => exact hF 17 _ rfl
  | 11, _ => exact hF 20 _ rfl
  | 12, _ => exact hF 196 _ rfl
  | 13, _ => exact hF 199 _ rfl
  | 14, _ => exact hF 202 _ rfl
  | 15, _ => exact hF 205 _ rfl
  | 16, _ => exact hF 209 _ rfl
  | 17, _ => exact hF 212 _ rfl
  | 18, _ => exact hF 215 _ rfl
  | 19, _ => exact hF 218 _ rfl
  | 20, _ => exact hF 89 _ rfl
  | 21, _ => exact hF 92 _ rfl
  | 22, _ => exact hF 95 _ rfl
  | 23, _ => exact hF 98 _ rfl
  | 24, _ => exact hF 102 _ rfl
  | 25, _ => exact hF 105 _ rfl
  | 26, _ => exact hF 108 _ rfl
  | 27, _ => exact hF 111 _ rfl
  | 28, _ => exact hF 115 _ rfl
  | 29, _ => exact hF 118 _ rfl
  | 30, _ => exact hF 121 _ rfl
  | 31, _ => exact hF 124 _ rfl
  | 32, _ => exact hF 128 _ rfl
  | 33, _ => exact hF 131 _ rfl
  | 34, _ => exact hF 134 _ rfl
  | 35, _ => exact hF 137 _ rfl
  | 36, _ => exact hF 141 _ rfl
  | 37, _ => exact hF 144 _ rfl
  | 38, _ => exact hF 147 _ rfl
  | 39, _ => exact hF 150 _ rfl
  | 40, _ => exact hF 154 _ rfl
  | 41, _ => exact hF 157 _ rfl
  | 42, _ => exact hF 160 _ rfl
  | 43, _ => exact hF 163 _ rfl
  | 44, _ => exact hF 167 _ rfl
  | 45, _ => exact hF 170 _ rfl
  | 46, _ => exact hF 173 _ rfl
  | 47, _ => exact hF 176 _ rfl
  | 48, _ => exact hF 180 _ rfl
  | 49, _ => exact hF 183 _ rfl
  | 50, _ => exact hF 186 _ rfl
  | 51, _ => exact hF 189 _ rfl
  | n + 52, h9 => exact absurd h9 (Nat.not_lt.mpr (Nat.le_add_left _ _))
set_option maxRecDepth 20000 in
theorem at8_12 {D : va_G} {ct : Nat → ClassId} {q : Nat} {H : Heap} (hF : HPo D q (g_X8_init ct q) H) {i : Int} (h0 : 0 ≤ i) (h1 : i < 2) : va_at D vwCl (q + off8 12 i, cel ct (fun K i => q + off8 K i) 12 i i8) H := by
  obtain ⟨n, rfl⟩ : ∃ n : Nat, i = (n : Int) := ⟨i.toNat, by omega⟩
  have hn : n < 2 := by omega
  clear h0 h1
  match n, hn with
  | 0, _ => exact hF 74 _ rfl
  | 1, _ => exact hF 79 _ rfl
  | n + 2, h9 => exact absurd h9 (Nat.not_lt.mpr (Nat.le_add_left _ _))
set_option maxRecDepth 20000 in
theorem at8_13 {D : va_G} {ct : Nat → ClassId} {q : Nat} {H : Heap} (hF : HPo D q (g_X8_init ct q) H) {i : Int} (h0 : 0 ≤ i) (h1 : i < 2) : va_at D vwCl (q + off8 13 i, cel ct (fun K i => q + off8 K i) 13 i i8) H := by
  obtain ⟨n, rfl⟩ : ∃ n : Nat, i = (n : Int) := ⟨i.toNat, by omega⟩
  have hn : n < 2 := by omega
  clear h0 h1
  match n, hn with
  | 0, _ => exact hF 75 _ rfl
  | 1, _ => exact hF 80 _ rfl
  | n + 2, h9 => exact absurd h9 (Nat.not_lt.mpr (Nat.le_add_left _ _))
set_option maxRecDepth 20000 in
theorem at8_14 {D : va_G} {ct : Nat → ClassId} {q : Nat} {H : Heap} (hF : HPo D q (g_X8_init ct q) H) {i : Int} (h0 : 0 ≤ i) (h1 : i < 2) : va_at D vwCl (q + off8 14 i, cel ct (fun K i => q + off8 K i) 14 i i8) H := by
  obtain ⟨n, rfl⟩ : ∃ n : Nat, i = (n : Int) := ⟨i.toNat, by omega⟩
  have hn : n < 2 := by omega
  clear h0 h1
  match n, hn with
  | 0, _ => exact hF 76 _ rfl
  | 1, _ => exact hF 81 _ rfl
  | n + 2, h9 => exact absurd h9 (Nat.not_lt.mpr (Nat.le_add_left _ _))
set_option maxRecDepth 20000 in
theorem at8_15 {D : va_G} {ct : Nat → ClassId} {q : Nat} {H : Heap} (hF : HPo D q (g_X8_init ct q) H) {i : Int} (h0 : 0 ≤ i) (h1 : i < 2) : va_at D vwCl (q + off8 15 i, cel ct (fun K i => q + off8 K i) 15 i i8) H := by
  obtain ⟨n, rfl⟩ : ∃ n : Nat, i = (n : Int) := ⟨i.toNat, by omega⟩
  have hn : n < 2 := by omega
  clear h0 h1
  match n, hn with
  | 0, _ => exact hF 77 _ rfl
  | 1, _ => exact hF 82 _ rfl
  | n + 2, h9 => exact absurd h9 (Nat.not_lt.mpr (Nat.le_add_left _ _))
set_option maxRecDepth 20000 in
theorem at8_16 {D : va_G} {ct : Nat → ClassId} {q : Nat} {H : Heap} (hF : HPo D q (g_X8_init ct q) H) {i : Int} (h0 : 0 ≤ i) (h1 : i < 1) : va_at D vwCl (q + off8 16 i, cel ct (fun K i => q + off8 K i) 16 i i8) H := by
  obtain ⟨n, rfl⟩ : ∃ n : Nat, i = (n : Int) := ⟨i.toNat, by omega⟩
  have hn : n < 1 := by omega
  clear h0 h1
  match n, hn with
  | 0, _ => exact at_ext (hF 85 _ rfl) (fun j hj => by match j, hj with | 0, _ => rfl | 1, _ => rfl | 2, _ => rfl | 3, _ => rfl | 4, _ => rfl | 5, _ => rfl | 6, _ => rfl | 7, _ => rfl | j + 8, h9 => exact absurd h9 (Nat.not_lt.mpr (Nat.le_add_left _ _)))
  | n + 1, h9 => exact absurd h9 (Nat.not_lt.mpr (Nat.le_add_left _ _))
set_option maxRecDepth 20000 in
theorem at8_17 {D : va_G} {ct : Nat → ClassId} {q : Nat} {H : Heap} (hF : HPo D q (g_X8_init ct q) H) {i : Int} (h0 : 0 ≤ i) (h1 : i < 2) : va_at D vwCl (q + off8 17 i, cel ct (fun K i => q + off8 K i) 17 i i8) H := by
  obtain ⟨n, rfl⟩ : ∃ n : Nat, i = (n : Int) := ⟨i.toNat, by omega⟩
  have hn : n < 2 := by omega
  clear h0 h1
  match n, hn with
  | 0, _ => exact at_ext (hF 35 _ rfl) (fun j hj => by match j, hj with | 0, _ => rfl | 1, _ => rfl | 2, _ => rfl | 3, _ => rfl | 4, _ => rfl | j + 5, h9 => exact absurd h9 (Nat.not_lt.mpr (Nat.le_add_left _ _)))
  | 1, _ => exact at_ext (hF 61 _ rfl) (fun j hj => by match j, hj with | 0, _ => rfl | 1, _ => rfl | 2, _ => rfl | 3, _ => rfl | 4, _ => rfl | j + 5, h9 => exact absurd h9 (Nat.not_lt.mpr (Nat.le_add_left _ _)))
  | n + 2, h9 => exact absurd h9 (Nat.not_lt.mpr (Nat.le_add_left _ _))
set_option maxRecDepth 20000 in
theorem at8_18 {D : va_G} {ct : Nat → ClassId} {q : Nat} {H : Heap} (hF : HPo D q (g_X8_init ct q) H) {i : Int} (h0 : 0 ≤ i) (h1 : i < 10) : va_at D vwCl (q + off8 18 i, cel ct (fun K i => q + off8 K i) 18 i i8) H := by
  obtain ⟨n, rfl⟩ : ∃ n : Nat, i = (n : Int) := ⟨i.toNat, by omega⟩
  have hn : n < 10 := by omega
  clear h0 h1
  match n, hn with
  | 0, _ => exact hF 36 _ rfl
  | 1, _ => exact hF 37 _ rfl
  | 2, _ => exact hF 38 _ rfl
  | 3, _ => exact hF 39 _ rfl
  | 4, _ => exact hF 40 _ rfl
  | 5, _ => exact hF 62 _ rfl
  | 6, _ => exact hF 63 _ rfl
  | 7, _ => exact hF 64 _ rfl
  | 8, _ => exact hF 65 _ rfl
  | 9, _ => exact hF 66 _ rfl
  | n + 10, h9 => exact absurd h9 (Nat.not_lt.mpr (Nat.le_add_left _ _))
set_option maxRecDepth 20000 in
theorem at8_19 {D : va_G} {ct : Nat → ClassId} {q : Nat} {H : Heap} (hF : HPo D q (g_X8_init ct q) H) {i : Int} (h0 : 0 ≤ i) (h1 : i < 2) : va_at D vwCl (q + off8 19 i, cel ct (fun K i => q + off8 K i) 19 i i8) H := by
  obtain ⟨n, rfl⟩ : ∃ n : Nat, i = (n : Int) := ⟨i.toNat, by omega⟩
  have hn : n < 2 := by omega
  clear h0 h1
  match n, hn with
  | 0, _ => exact at_ext (hF 41 _ rfl) (fun j hj => by match j, hj with | 0, _ => rfl | 1, _ => rfl | 2, _ => rfl | 3, _ => rfl | 4, _ => rfl | j + 5, h9 => exact absurd h9 (Nat.not_lt.mpr (Nat.le_add_left _ _)))
  | 1, _ => exact at_ext (hF 67 _ rfl) (fun j hj => by match j, hj with | 0, _ => rfl | 1, _ => rfl | 2, _ => rfl | 3, _ => rfl | 4, _ => rfl | j + 5, h9 => exact absurd h9 (Nat.not_lt.mpr (Nat.le_add_left _ _)))
  | n + 2, h9 => exact absurd h9 (Nat.not_lt.mpr (Nat.le_add_left _ _))
set_option maxRecDepth 20000 in
theorem at8_20 {D : va_G} {ct : Nat → ClassId} {q : Nat} {H : Heap} (hF : HPo D q (g_X8_init ct q) H) {i : Int} (h0 : 0 ≤ i) (h1 : i < 10) : va_at D vwCl (q + off8 20 i, cel ct (fun K i => q + off8 K i) 20 i i8) H := by
  obtain ⟨n, rfl⟩ : ∃ n : Nat, i = (n : Int) := ⟨i.toNat, by omega⟩
  have hn : n < 10 := by omega
  clear h0 h1
  match n, hn with
  | 0, _ => exact hF 42 _ rfl
  | 1, _ => exact hF 43 _ rfl
  | 2, _ => exact hF 44 _ rfl
  | 3, _ => exact hF 45 _ rfl
  | 4, _ => exact hF 46 _ rfl
  | 5, _ => exact hF 68 _ rfl
  | 6, _ => exact hF 69 _ rfl
  | 7, _ => exact hF 70 _ rfl
  | 8, _ => exact hF 71 _ rfl
  | 9, _ => exact hF 72 _ rfl
  | n + 10, h9 => exact absurd h9 (Nat.not_lt.mpr (Nat.le_add_left _ _))
set_option maxRecDepth 20000 in
theorem at8_21 {D : va_G} {ct : Nat → ClassId} {q : Nat} {H : Heap} (hF : HPo D q (g_X8_init ct q) H) {i : Int} (h0 : 0 ≤ i) (h1 : i < 1) : va_at D vwCl (q + off8 21 i, cel ct (fun K i => q + off8 K i) 21 i i8) H := by
  obtain ⟨n, rfl⟩ : ∃ n : Nat, i = (n : Int) := ⟨i.toNat, by omega⟩
  have hn : n < 1 := by omega
  clear h0 h1
  match n, hn with
  | 0, _ => exact hF 3 _ rfl
  | n + 1, h9 => exact absurd h9 (Nat.not_lt.mpr (Nat.le_add_left _ _))
set_option maxRecDepth 20000 in
theorem at8_22 {D : va_G} {ct : Nat → ClassId} {q : Nat} {H : Heap} (hF : HPo D q (g_X8_init ct q) H) {i : Int} (h0 : 0 ≤ i) (h1 : i < 1) : va_at D vwCl (q + off8 22 i, cel ct (fun K i => q + off8 K i) 22 i i8) H := by
  obtain ⟨n, rfl⟩ : ∃ n : Nat, i = (n : Int) := ⟨i.toNat, by omega⟩
  have hn : n < 1 := by omega
  clear h0 h1
  match n, hn with
  | 0, _ => exact hF 4 _ rfl
  | n + 1, h9 => exact absurd h9 (Nat.not_lt.mpr (Nat.le_add_left _ _))
set_option maxRecDepth 20000 in
theorem at8_23 {D : va_G} {ct : Nat → ClassId} {q : Nat} {H : Heap} (hF : HPo D q (g_X8_init ct q) H) {i : Int} (h0 : 0 ≤ i) (h1 : i < 1) : va_at D vwCl (q + off8 23 i, cel ct (fun K i => q + off8 K i) 23 i i8) H := by
  obtain ⟨n, rfl⟩ : ∃ n : Nat, i = (n : Int) := ⟨i.toNat, by omega⟩
  have hn : n < 1 := by omega
  clear h0 h1
  match n, hn with
  | 0, _ => exact hF 5 _ rfl
  | n + 1, h9 => exact absurd h9 (Nat.not_lt.mpr (Nat.le_add_left _ _))
set_option maxRecDepth 20000 in
theorem at8_24 {D : va_G} {ct : Nat → ClassId} {q : Nat} {H : Heap} (hF : HPo D q (g_X8_init ct q) H) {i : Int} (h0 : 0 ≤ i) (h1 : i < 1) : va_at D vwCl (q + off8 24 i, cel ct (fun K i => q + off8 K i) 24 i i8) H := by
  obtain ⟨n, rfl⟩ : ∃ n : Nat, i = (n : Int) := ⟨i.toNat, by omega⟩
  have hn : n < 1 := by omega
  clear h0 h1
  match n, hn with
  | 0, _ => exact hF 6 _ rfl
  | n + 1, h9 => exact absurd h9 (Nat.not_lt.mpr (Nat.le_add_left _ _))
set_option maxRecDepth 20000 in
theorem at8_25 {D : va_G} {ct : Nat → ClassId} {q : Nat} {H : Heap} (hF : HPo D q (g_X8_init ct q) H) {i : Int} (h0 : 0 ≤ i) (h1 : i < 1) : va_at D vwCl (q + off8 25 i, cel ct (fun K i => q + off8 K i) 25 i i8) H := by
  obtain ⟨n, rfl⟩ : ∃ n : Nat, i = (n : Int) := ⟨i.toNat, by omega⟩
  have hn : n < 1 := by omega
  clear h0 h1
  match n, hn with
  | 0, _ => exact hF 7 _ rfl
  | n + 1, h9 => exact absurd h9 (Nat.not_lt.mpr (Nat.le_add_left _ _))
set_option maxRecDepth 20000 in
theorem at8_26 {D : va_G} {ct : Nat → ClassId} {q : Nat} {H : Heap} (hF : HPo D q (g_X8_init ct q) H) {i : Int} (h0 : 0 ≤ i) (h1 : i < 1) : va_at D vwCl (q + off8 26 i, cel ct (fun K i => q + off8 K i) 26 i i8) H := by
  obtain ⟨n, rfl⟩ : ∃ n : Nat, i = (n : Int) := ⟨i.toNat, by omega⟩
  have hn : n < 1 := by omega
  clear h0 h1
  match n, hn with
  | 0, _ => exact at_ext (hF 190 _ rfl) (fun j hj => by match j, hj with | 0, _ => rfl | 1, _ => rfl | j + 2, h9 => exact absurd h9 (Nat.not_lt.mpr (Nat.le_add_left _ _)))
  | n + 1, h9 => exact absurd h9 (Nat.not_lt.mpr (Nat.le_add_left _ _))
set_option maxRecDepth 20000 in
theorem at8_27 {D : va_G} {ct : Nat → ClassId} {q : Nat} {H : Heap} (hF : HPo D q (g_X8_init ct q) H) {i : Int} (h0 : 0 ≤ i) (h1 : i < 1) : va_at D vwCl (q + off8 27 i, cel ct (fun K i => q + off8 K i) 27 i i8) H := by
  obtain ⟨n, rfl⟩ : ∃ n : Nat, i = (n : Int) := ⟨i.toNat, by omega⟩
  have hn : n < 1 := by omega
  clear h0 h1
  match n, hn with
  | 0, _ => exact hF 191 _ rfl
  | n + 1, h9 => exact absurd h9 (Nat.not_lt.mpr (Nat.le_add_left _ _))
set_option maxRecDepth 20000 in
theorem at8_28 {D : va_G} {ct : Nat → ClassId} {q : Nat} {H : Heap} (hF : HPo D q (g_X8_init ct q) H) {i : Int} (h0 : 0 ≤ i) (h1 : i < 1) : va_at D vwCl (q + off8 28 i, cel ct (fun K i => q + off8 K i) 28 i i8) H := by
  obtain ⟨n, rfl⟩ : ∃ n : Nat, i = (n : Int) := ⟨i.toNat, by omega⟩
  have hn : n < 1 := by omega
  clear h0 h1
  match n, hn with
  | 0, _ => exact hF 192 _ rfl
  | n + 1, h9 => exact absurd h9 (Nat.not_lt.mpr (Nat.le_add_left _ _))
def cnt8 : List (Nat × Nat) := [(0, 13), (1, 2), (2, 1), (3, 2), (4, 1), (5, 1), (6, 52), (7, 1), (8, 1), (10, 52), (11, 52), (12, 2), (13, 2), (14, 2), (15, 2), (16, 1), (17, 2), (18, 10), (19, 2), (20, 10), (21, 1), (22, 1), (23, 1), (24, 1), (25, 1), (26, 1), (27, 1), (28, 1)]
def Lk8 : List (Nat × Int) := cnt8.flatMap (fun p => (List.range p.2).map (fun n : Nat => (p.1, (n : Int))))
theorem cnt8_ok : ∀ K, K < 29 → ¬ K = 9 → (K, (cnt K).toNat) ∈ cnt8 := by decide
theorem vC_mem {K : Nat} {i : Int} (h : vC K i) : (K, i) ∈ Lk8 := by
  obtain ⟨hK, h9, h0, h1⟩ := h
  refine List.mem_flatMap.mpr ⟨_, cnt8_ok K hK h9, List.mem_map.mpr ⟨i.toNat, List.mem_range.mpr (by show i.toNat < (cnt K).toNat; omega), ?_⟩⟩
  show (K, (i.toNat : Int)) = (K, i)
  rw [Int.toNat_of_nonneg h0]
set_option maxRecDepth 100000 in
theorem mem_vC : ∀ k ∈ Lk8, vC k.1 k.2 := by
  have hd : ∀ k ∈ Lk8, k.1 < 29 ∧ ¬ k.1 = 9 ∧ 0 ≤ k.2 ∧ k.2 < cnt k.1 := by decide +kernel
  exact fun k hk => hd k hk
set_option maxRecDepth 100000 in
theorem Lk8_nd : Lk8.Nodup := by decide +kernel
set_option maxRecDepth 100000 in
theorem off8_nd : (Lk8.map (fun k => off8 k.1 k.2)).Nodup := by decide +kernel
theorem off8_inj {k k' : Nat × Int} (h : k ∈ Lk8) (h' : k' ∈ Lk8) (e : off8 k.1 k.2 = off8 k'.1 k'.2) : k = k' := by
  obtain ⟨a, ha, rfl⟩ := List.mem_iff_getElem.mp h
  obtain ⟨a', ha', rfl⟩ := List.mem_iff_getElem.mp h'
  have e1 : (Lk8.map (fun k => off8 k.1 k.2))[a]? = (Lk8.map (fun k => off8 k.1 k.2))[a']? := by
    rw [List.getElem?_map, List.getElem?_map, List.getElem?_eq_getElem ha, List.getElem?_eq_getElem ha']
    exact congrArg some e
  have := (List.getElem?_inj (by rw [List.length_map]; exact ha) off8_nd).mp e1
  subst this
  rfl
theorem at8 {D : va_G} {ct : Nat → ClassId} {q : Nat} {H : Heap} (hF : HPo D q (g_X8_init ct q) H) {K : Nat} {i : Int} (h : vC K i) : va_at D vwCl (q + off8 K i, cel ct (fun K i => q + off8 K i) K i i8) H := by
  obtain ⟨hK, h9, h0, h1⟩ := h
  match K, hK, h9, h1 with
  | 0, _, _, h1 => exact at8_0 hF h0 h1
  | 1, _, _, h1 => exact at8_1 hF h0 h1
  | 2, _, _, h1 => exact at8_2 hF h0 h1
  | 3, _, _, h1 => exact at8_3 hF h0 h1
  | 4, _, _, h1 => exact at8_4 hF h0 h1
  | 5, _, _, h1 => exact at8_5 hF h0 h1
  | 6, _, _, h1 => exact at8_6 hF h0 h1
  | 7, _, _, h1 => exact at8_7 hF h0 h1
  | 8, _, _, h1 => exact at8_8 hF h0 h1
  | 9, _, h9, _ => exact absurd rfl h9
  | 10, _, _, h1 => exact at8_10 hF h0 h1
  | 11, _, _, h1 => exact at8_11 hF h0 h1
  | 12, _, _, h1 => exact at8_12 hF h0 h1
  | 13, _, _, h1 => exact at8_13 hF h0 h1
  | 14, _, _, h1 => exact at8_14 hF h0 h1
  | 15, _, _, h1 => exact at8_15 hF h0 h1
  | 16, _, _, h1 => exact at8_16 hF h0 h1
  | 17, _, _, h1 => exact at8_17 hF h0 h1
  | 18, _, _, h1 => exact at8_18 hF h0 h1
  | 19, _, _, h1 => exact at8_19 hF h0 h1
  | 20, _, _, h1 => exact at8_20 hF h0 h1
  | 21, _, _, h1 => exact at8_21 hF h0 h1
  | 22, _, _, h1 => exact at8_22 hF h0 h1
  | 23, _, _, h1 => exact at8_23 hF h0 h1
  | 24, _, _, h1 => exact at8_24 hF h0 h1
  | 25, _, _, h1 => exact at8_25 hF h0 h1
  | 26, _, _, h1 => exact at8_26 hF h0 h1
  | 27, _, _, h1 => exact at8_27 hF h0 h1
  | 28, _, _, h1 => exact at8_28 hF h0 h1
  | n + 29, h, _, _ => exact absurd h (Nat.not_lt.mpr (Nat.le_add_left _ _))
theorem Iv8 {D : va_G} {ct : Nat → ClassId} {q : Nat} {A : Nat → Prop} {z : (Nat → Nat) × (Nat → Nat)} {H : Heap} (hF : HPo D q (g_X8_init ct q) H) (hA : ∀ a, q ≤ a → A a) : Iv vC (D, ct, (fun K i => q + off8 K i), A, z) i8 H :=
  Iv_mk (fun K i K' i' v v' e => by
    have e : q + off8 K i = q + off8 K' i' := e
    have := off8_inj (vC_mem v) (vC_mem v') (by show off8 K i = off8 K' i'; omega)
    exact ⟨congrArg Prod.fst this, congrArg Prod.snd this⟩) Lk8 (fun K i => ⟨vC_mem, fun h => mem_vC _ h⟩) Lk8_nd (fun K i v => at8 hF v) (fun K i v => hA _ (Nat.le_add_right _ _))
