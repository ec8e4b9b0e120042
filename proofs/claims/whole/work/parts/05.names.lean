/-! the names (out of the printed ones), the words that stay good, the cells of the class and of the reference -/
def RX0 : String := "WiringContainer$BeanTable"
def TX0 : u_T := fun k => match k with
  | 0 => ("WiringContainer$BeanTable", "classes", "LWiringContainer$ClassTable;", true)
  | 1 => ("WiringContainer$BeanTable", "count", "I", false)
  | 2 => ("WiringContainer$BeanTable", "type", "[I", true)
  | 3 => ("WiringContainer$BeanTable", "marks", "[I", true)
  | 4 => ("WiringContainer$BeanTable", "scope", "[I", true)
  | 5 => ("WiringContainer$BeanTable", "choice", "[I", true)
  | 6 => ("WiringContainer$BeanTable", "home", "[I", true)
  | 7 => ("WiringContainer$BeanTable", "managed", "[Z", true)
  | 8 => ("WiringContainer$BeanTable", "points", "[I", true)
  | 9 => ("WiringContainer$BeanTable", "pointType", "[[I", true)
  | _ => ("WiringContainer$BeanTable", "pointMarks", "[[I", true)
def tyX0 : Nat → FieldType := fun k => match k with
  | 0 => .object "WiringContainer$ClassTable"
  | 1 => .int
  | 2 => .array .int
  | 3 => .array .int
  | 4 => .array .int
  | 5 => .array .int
  | 6 => .array .int
  | 7 => .array .boolean
  | 8 => .array .int
  | 9 => .array (.array .int)
  | _ => .array (.array .int)
set_option maxRecDepth 100000 in
theorem nmX0 : ∀ a, a < 11 → ∀ b, b < 11 → a ≠ b → (TX0 a).2.1 ≠ (TX0 b).2.1 := by decide +kernel
set_option maxRecDepth 100000 in
theorem tyX0_ok : ∀ k, k < 11 → parseFieldDescriptor (TX0 k).2.2.1 = some (tyX0 k) := by decide +kernel
def RX1 : String := "WiringContainer$ClassTable"
def TX1 : u_T := fun k => match k with
  | 0 => ("WiringContainer$ClassTable", "last", "I", false)
  | 1 => ("WiringContainer$ClassTable", "generic", "[Z", true)
  | 2 => ("WiringContainer$ClassTable", "closed", "[Z", true)
  | 3 => ("WiringContainer$ClassTable", "level", "[I", true)
  | 4 => ("WiringContainer$ClassTable", "first", "[I", true)
  | 5 => ("WiringContainer$ClassTable", "second", "[I", true)
  | 6 => ("WiringContainer$ClassTable", "headsAbove", "[I", true)
  | 7 => ("WiringContainer$ClassTable", "supertypes", "[J", true)
  | _ => ("WiringContainer$ClassTable", "supertypeCount", "I", false)
def tyX1 : Nat → FieldType := fun k => match k with
  | 0 => .int
  | 1 => .array .boolean
  | 2 => .array .boolean
  | 3 => .array .int
  | 4 => .array .int
  | 5 => .array .int
  | 6 => .array .int
  | 7 => .array .long
  | _ => .int
set_option maxRecDepth 100000 in
theorem nmX1 : ∀ a, a < 9 → ∀ b, b < 9 → a ≠ b → (TX1 a).2.1 ≠ (TX1 b).2.1 := by decide +kernel
set_option maxRecDepth 100000 in
theorem tyX1_ok : ∀ k, k < 9 → parseFieldDescriptor (TX1 k).2.2.1 = some (tyX1 k) := by decide +kernel
def RX2 : String := "WiringContainer$ContextTable"
def TX2 : u_T := fun k => match k with
  | 0 => ("WiringContainer$ContextTable", "active", "[Z", true)
  | _ => ("WiringContainer$ContextTable", "held", "[[I", true)
def tyX2 : Nat → FieldType := fun k => match k with
  | 0 => .array .boolean
  | _ => .array (.array .int)
set_option maxRecDepth 100000 in
theorem nmX2 : ∀ a, a < 2 → ∀ b, b < 2 → a ≠ b → (TX2 a).2.1 ≠ (TX2 b).2.1 := by decide +kernel
set_option maxRecDepth 100000 in
theorem tyX2_ok : ∀ k, k < 2 → parseFieldDescriptor (TX2 k).2.2.1 = some (tyX2 k) := by decide +kernel
def RX3 : String := "WiringContainer$InstanceTable"
def TX3 : u_T := fun k => match k with
  | 0 => ("WiringContainer$InstanceTable", "made", "I", false)
  | 1 => ("WiringContainer$InstanceTable", "living", "I", false)
  | 2 => ("WiringContainer$InstanceTable", "gone", "I", false)
  | 3 => ("WiringContainer$InstanceTable", "bean", "[I", true)
  | 4 => ("WiringContainer$InstanceTable", "owner", "[I", true)
  | 5 => ("WiringContainer$InstanceTable", "alive", "[Z", true)
  | 6 => ("WiringContainer$InstanceTable", "part", "[[I", true)
  | _ => ("WiringContainer$InstanceTable", "order", "[I", true)
def tyX3 : Nat → FieldType := fun k => match k with
  | 0 => .int
  | 1 => .int
  | 2 => .int
  | 3 => .array .int
  | 4 => .array .int
  | 5 => .array .boolean
  | 6 => .array (.array .int)
  | _ => .array .int
set_option maxRecDepth 100000 in
theorem nmX3 : ∀ a, a < 8 → ∀ b, b < 8 → a ≠ b → (TX3 a).2.1 ≠ (TX3 b).2.1 := by decide +kernel
set_option maxRecDepth 100000 in
theorem tyX3_ok : ∀ k, k < 8 → parseFieldDescriptor (TX3 k).2.2.1 = some (tyX3 k) := by decide +kernel
def RX4 : String := "WiringContainer$Plan"
def TX4 : u_T := fun k => match k with
  | 0 => ("WiringContainer$Plan", "classes", "LWiringContainer$ClassTable;", true)
  | 1 => ("WiringContainer$Plan", "beans", "LWiringContainer$BeanTable;", true)
  | 2 => ("WiringContainer$Plan", "target", "[[I", true)
  | 3 => ("WiringContainer$Plan", "needs", "[I", true)
  | _ => ("WiringContainer$Plan", "cost", "[I", true)
def tyX4 : Nat → FieldType := fun k => match k with
  | 0 => .object "WiringContainer$ClassTable"
  | 1 => .object "WiringContainer$BeanTable"
  | 2 => .array (.array .int)
  | 3 => .array .int
  | _ => .array .int
set_option maxRecDepth 100000 in
theorem nmX4 : ∀ a, a < 5 → ∀ b, b < 5 → a ≠ b → (TX4 a).2.1 ≠ (TX4 b).2.1 := by decide +kernel
set_option maxRecDepth 100000 in
theorem tyX4_ok : ∀ k, k < 5 → parseFieldDescriptor (TX4 k).2.2.1 = some (tyX4 k) := by decide +kernel
def RX5 : String := "WiringContainer"
def TX5 : u_T := fun k => match k with
  | 0 => ("WiringContainer", "classes", "LWiringContainer$ClassTable;", true)
  | 1 => ("WiringContainer", "beans", "LWiringContainer$BeanTable;", true)
  | 2 => ("WiringContainer", "plan", "LWiringContainer$Plan;", true)
  | 3 => ("WiringContainer", "instances", "LWiringContainer$InstanceTable;", true)
  | 4 => ("WiringContainer", "contexts", "LWiringContainer$ContextTable;", true)
  | _ => ("WiringContainer", "running", "Z", false)
def tyX5 : Nat → FieldType := fun k => match k with
  | 0 => .object "WiringContainer$ClassTable"
  | 1 => .object "WiringContainer$BeanTable"
  | 2 => .object "WiringContainer$Plan"
  | 3 => .object "WiringContainer$InstanceTable"
  | 4 => .object "WiringContainer$ContextTable"
  | _ => .boolean
set_option maxRecDepth 100000 in
theorem nmX5 : ∀ a, a < 6 → ∀ b, b < 6 → a ≠ b → (TX5 a).2.1 ≠ (TX5 b).2.1 := by decide +kernel
set_option maxRecDepth 100000 in
theorem tyX5_ok : ∀ k, k < 6 → parseFieldDescriptor (TX5 k).2.2.1 = some (tyX5 k) := by decide +kernel
def RX6 : String := "WiringContainerModel"
def TX6 : u_T := fun k => match k with
  | 0 => ("WiringContainerModel", "classes", "I", false)
  | 1 => ("WiringContainerModel", "generic", "[Z", true)
  | 2 => ("WiringContainerModel", "closed", "[Z", true)
  | 3 => ("WiringContainerModel", "level", "[I", true)
  | 4 => ("WiringContainerModel", "parent", "[I", true)
  | 5 => ("WiringContainerModel", "beans", "I", false)
  | 6 => ("WiringContainerModel", "kindOfBean", "[I", true)
  | 7 => ("WiringContainerModel", "mark", "[I", true)
  | 8 => ("WiringContainerModel", "scope", "[I", true)
  | 9 => ("WiringContainerModel", "choice", "[I", true)
  | 10 => ("WiringContainerModel", "home", "[I", true)
  | 11 => ("WiringContainerModel", "managed", "[Z", true)
  | 12 => ("WiringContainerModel", "points", "[I", true)
  | 13 => ("WiringContainerModel", "wanted", "[I", true)
  | 14 => ("WiringContainerModel", "wantedMark", "[I", true)
  | 15 => ("WiringContainerModel", "running", "Z", false)
  | 16 => ("WiringContainerModel", "to", "[I", true)
  | 17 => ("WiringContainerModel", "need", "[I", true)
  | 18 => ("WiringContainerModel", "cost", "[I", true)
  | 19 => ("WiringContainerModel", "above", "[J", true)
  | 20 => ("WiringContainerModel", "aboves", "I", false)
  | 21 => ("WiringContainerModel", "askR", "[J", true)
  | 22 => ("WiringContainerModel", "askB", "[J", true)
  | 23 => ("WiringContainerModel", "asks", "I", false)
  | 24 => ("WiringContainerModel", "used", "I", false)
  | 25 => ("WiringContainerModel", "beanAt", "[I", true)
  | 26 => ("WiringContainerModel", "ownerAt", "[I", true)
  | 27 => ("WiringContainerModel", "pointAt", "[I", true)
  | 28 => ("WiringContainerModel", "alive", "[Z", true)
  | 29 => ("WiringContainerModel", "obtained", "[Z", true)
  | 30 => ("WiringContainerModel", "gone", "[I", true)
  | 31 => ("WiringContainerModel", "gones", "I", false)
  | 32 => ("WiringContainerModel", "partBean", "[I", true)
  | 33 => ("WiringContainerModel", "partFrom", "[I", true)
  | 34 => ("WiringContainerModel", "partOwner", "[I", true)
  | 35 => ("WiringContainerModel", "partPoint", "[I", true)
  | 36 => ("WiringContainerModel", "partHome", "[Z", true)
  | 37 => ("WiringContainerModel", "parts", "I", false)
  | 38 => ("WiringContainerModel", "doomed", "[I", true)
  | 39 => ("WiringContainerModel", "active", "[Z", true)
  | _ => ("WiringContainerModel", "held", "[I", true)
def tyX6 : Nat → FieldType := fun k => match k with
  | 0 => .int
  | 1 => .array .boolean
  | 2 => .array .boolean
  | 3 => .array .int
  | 4 => .array .int
  | 5 => .int
  | 6 => .array .int
  | 7 => .array .int
  | 8 => .array .int
  | 9 => .array .int
  | 10 => .array .int
  | 11 => .array .boolean
  | 12 => .array .int
  | 13 => .array .int
  | 14 => .array .int
  | 15 => .boolean
  | 16 => .array .int
  | 17 => .array .int
  | 18 => .array .int
  | 19 => .array .long
  | 20 => .int
  | 21 => .array .long
  | 22 => .array .long
  | 23 => .int
  | 24 => .int
  | 25 => .array .int
  | 26 => .array .int
  | 27 => .array .int
  | 28 => .array .boolean
  | 29 => .array .boolean
  | 30 => .array .int
  | 31 => .int
  | 32 => .array .int
  | 33 => .array .int
  | 34 => .array .int
  | 35 => .array .int
  | 36 => .array .boolean
  | 37 => .int
  | 38 => .array .int
  | 39 => .array .boolean
  | _ => .array .int
set_option maxRecDepth 100000 in
theorem nmX6 : ∀ a, a < 41 → ∀ b, b < 41 → a ≠ b → (TX6 a).2.1 ≠ (TX6 b).2.1 := by decide +kernel
set_option maxRecDepth 100000 in
theorem tyX6_ok : ∀ k, k < 41 → parseFieldDescriptor (TX6 k).2.2.1 = some (tyX6 k) := by decide +kernel
def ww_cl : List vw_C := [(RX0, TX0, 11), (RX1, TX1, 9), (RX2, TX2, 2), (RX3, TX3, 8), (RX4, TX4, 5), (RX5, TX5, 6), (RX6, TX6, 41)]
def ww_nm (o : Nat) : String := match o with
  | 0 => "WiringContainer$BeanTable"
  | 1 => "WiringContainer$ClassTable"
  | 2 => "WiringContainer$ContextTable"
  | 3 => "WiringContainer$InstanceTable"
  | 4 => "WiringContainer$Plan"
  | 5 => "WiringContainer"
  | 6 => "WiringContainerModel"
  | 7 => "java/lang/Integer"
  | _ => "java/lang/Math"
def ww_tbl : List Jvm.Cond := lw_tbl.filter goodWord
set_option maxRecDepth 100000 in
theorem ww_good : ∀ w ∈ ww_tbl, goodWord w = true := fun w h => (List.mem_filter.mp h).2
set_option maxRecDepth 100000 in
theorem ww_in (i : Nat) {w : Jvm.Cond} (h : tables_1[i]? = some w) (g : goodWord w = true) : w ∈ ww_tbl := List.mem_filter.mpr ⟨List.mem_append_right _ (List.mem_of_getElem? h), g⟩
set_option maxRecDepth 100000 in
theorem ww_c1 (i : Nat) {w : Jvm.Cond} (h : tables_1_1[i]? = some w) (g : goodWord w = true) : w ∈ ww_tbl := List.mem_filter.mpr ⟨List.mem_append_right _ (show w ∈ tables_1 from List.mem_append_left _ (List.mem_of_getElem? h)), g⟩
set_option maxRecDepth 100000 in
theorem ww_c2 (i : Nat) {w : Jvm.Cond} (h : tables_1_2[i]? = some w) (g : goodWord w = true) : w ∈ ww_tbl := List.mem_filter.mpr ⟨List.mem_append_right _ (show w ∈ tables_1 from List.mem_append_right _ (List.mem_append_left _ (List.mem_of_getElem? h))), g⟩
set_option maxRecDepth 100000 in
theorem ww_c3 (i : Nat) {w : Jvm.Cond} (h : tables_1_3[i]? = some w) (g : goodWord w = true) : w ∈ ww_tbl := List.mem_filter.mpr ⟨List.mem_append_right _ (show w ∈ tables_1 from List.mem_append_right _ (List.mem_append_right _ (List.mem_append_left _ (List.mem_of_getElem? h)))), g⟩
set_option maxRecDepth 100000 in
theorem ww_c4 (i : Nat) {w : Jvm.Cond} (h : tables_1_4[i]? = some w) (g : goodWord w = true) : w ∈ ww_tbl := List.mem_filter.mpr ⟨List.mem_append_right _ (show w ∈ tables_1 from List.mem_append_right _ (List.mem_append_right _ (List.mem_append_right _ (List.mem_append_left _ (List.mem_of_getElem? h))))), g⟩
set_option maxRecDepth 100000 in
theorem ww_c5 (i : Nat) {w : Jvm.Cond} (h : tables_1_5[i]? = some w) (g : goodWord w = true) : w ∈ ww_tbl := List.mem_filter.mpr ⟨List.mem_append_right _ (show w ∈ tables_1 from List.mem_append_right _ (List.mem_append_right _ (List.mem_append_right _ (List.mem_append_right _ (List.mem_of_getElem? h))))), g⟩
set_option maxRecDepth 100000 in
theorem ww_inS (i : Nat) {w : Jvm.Cond} (h : (k2_sels lw_privs)[i]? = some w) (g : goodWord w = true) : w ∈ ww_tbl := List.mem_filter.mpr ⟨List.mem_append_left _ (List.mem_of_getElem? h), g⟩
def ww_nst : mm_N := [("WiringContainer$BeanTable", 101, ⟨"WiringContainer", "markOf", "(II)I"⟩, "WiringContainer")]
set_option maxRecDepth 100000 in
theorem ww_w0 : ∀ w ∈ u_ws RX0 TX0 11, w ∈ ww_tbl := fun w h => (by
  obtain ⟨k, hk, rfl⟩ := List.mem_map.mp h
  have hk := List.mem_range.mp hk
  match k, hk with
  | 0, _ => exact ww_c1 74 rfl rfl
  | 1, _ => exact ww_c1 76 rfl rfl
  | 2, _ => exact ww_c1 78 rfl rfl
  | 3, _ => exact ww_c1 80 rfl rfl
  | 4, _ => exact ww_c1 82 rfl rfl
  | 5, _ => exact ww_c1 84 rfl rfl
  | 6, _ => exact ww_c1 86 rfl rfl
  | 7, _ => exact ww_c1 88 rfl rfl
  | 8, _ => exact ww_c1 90 rfl rfl
  | 9, _ => exact ww_c1 92 rfl rfl
  | 10, _ => exact ww_c1 94 rfl rfl
  | k + 11, hk => omega)
set_option maxRecDepth 100000 in
theorem ww_C0 : mm_COk ww_tbl (RX0, TX0, 11) := ⟨ww_w0, by decide +kernel, tyX0, tyX0_ok, nmX0⟩
set_option maxRecDepth 100000 in
theorem ww_w1 : ∀ w ∈ u_ws RX1 TX1 9, w ∈ ww_tbl := fun w h => (by
  obtain ⟨k, hk, rfl⟩ := List.mem_map.mp h
  have hk := List.mem_range.mp hk
  match k, hk with
  | 0, _ => exact ww_c1 33 rfl rfl
  | 1, _ => exact ww_c1 35 rfl rfl
  | 2, _ => exact ww_c1 37 rfl rfl
  | 3, _ => exact ww_c1 39 rfl rfl
  | 4, _ => exact ww_c1 41 rfl rfl
  | 5, _ => exact ww_c1 43 rfl rfl
  | 6, _ => exact ww_c1 45 rfl rfl
  | 7, _ => exact ww_c1 47 rfl rfl
  | 8, _ => exact ww_c1 49 rfl rfl
  | k + 9, hk => omega)
set_option maxRecDepth 100000 in
theorem ww_C1 : mm_COk ww_tbl (RX1, TX1, 9) := ⟨ww_w1, by decide +kernel, tyX1, tyX1_ok, nmX1⟩
set_option maxRecDepth 100000 in
theorem ww_w2 : ∀ w ∈ u_ws RX2 TX2 2, w ∈ ww_tbl := fun w h => (by
  obtain ⟨k, hk, rfl⟩ := List.mem_map.mp h
  have hk := List.mem_range.mp hk
  match k, hk with
  | 0, _ => exact ww_c1 161 rfl rfl
  | 1, _ => exact ww_c1 163 rfl rfl
  | k + 2, hk => omega)
set_option maxRecDepth 100000 in
theorem ww_C2 : mm_COk ww_tbl (RX2, TX2, 2) := ⟨ww_w2, by decide +kernel, tyX2, tyX2_ok, nmX2⟩
set_option maxRecDepth 100000 in
theorem ww_w3 : ∀ w ∈ u_ws RX3 TX3 8, w ∈ ww_tbl := fun w h => (by
  obtain ⟨k, hk, rfl⟩ := List.mem_map.mp h
  have hk := List.mem_range.mp hk
  match k, hk with
  | 0, _ => exact ww_c1 135 rfl rfl
  | 1, _ => exact ww_c1 137 rfl rfl
  | 2, _ => exact ww_c1 139 rfl rfl
  | 3, _ => exact ww_c1 141 rfl rfl
  | 4, _ => exact ww_c1 143 rfl rfl
  | 5, _ => exact ww_c1 145 rfl rfl
  | 6, _ => exact ww_c1 147 rfl rfl
  | 7, _ => exact ww_c1 149 rfl rfl
  | k + 8, hk => omega)
set_option maxRecDepth 100000 in
theorem ww_C3 : mm_COk ww_tbl (RX3, TX3, 8) := ⟨ww_w3, by decide +kernel, tyX3, tyX3_ok, nmX3⟩
set_option maxRecDepth 100000 in
theorem ww_w4 : ∀ w ∈ u_ws RX4 TX4 5, w ∈ ww_tbl := fun w h => (by
  obtain ⟨k, hk, rfl⟩ := List.mem_map.mp h
  have hk := List.mem_range.mp hk
  match k, hk with
  | 0, _ => exact ww_c1 109 rfl rfl
  | 1, _ => exact ww_c1 111 rfl rfl
  | 2, _ => exact ww_c1 113 rfl rfl
  | 3, _ => exact ww_c1 115 rfl rfl
  | 4, _ => exact ww_c1 117 rfl rfl
  | k + 5, hk => omega)
set_option maxRecDepth 100000 in
theorem ww_C4 : mm_COk ww_tbl (RX4, TX4, 5) := ⟨ww_w4, by decide +kernel, tyX4, tyX4_ok, nmX4⟩
set_option maxRecDepth 100000 in
theorem ww_w5 : ∀ w ∈ u_ws RX5 TX5 6, w ∈ ww_tbl := fun w h => (by
  obtain ⟨k, hk, rfl⟩ := List.mem_map.mp h
  have hk := List.mem_range.mp hk
  match k, hk with
  | 0, _ => exact ww_c1 172 rfl rfl
  | 1, _ => exact ww_c1 174 rfl rfl
  | 2, _ => exact ww_c1 176 rfl rfl
  | 3, _ => exact ww_c1 178 rfl rfl
  | 4, _ => exact ww_c1 180 rfl rfl
  | 5, _ => exact ww_c1 182 rfl rfl
  | k + 6, hk => omega)
set_option maxRecDepth 100000 in
theorem ww_C5 : mm_COk ww_tbl (RX5, TX5, 6) := ⟨ww_w5, by decide +kernel, tyX5, tyX5_ok, nmX5⟩
set_option maxRecDepth 100000 in
theorem ww_w6 : ∀ w ∈ u_ws RX6 TX6 41, w ∈ ww_tbl := fun w h => (by
  obtain ⟨k, hk, rfl⟩ := List.mem_map.mp h
  have hk := List.mem_range.mp hk
  match k, hk with
  | 0, _ => exact ww_c3 189 rfl rfl
  | 1, _ => exact ww_c3 191 rfl rfl
  | 2, _ => exact ww_c3 193 rfl rfl
  | 3, _ => exact ww_c3 195 rfl rfl
  | 4, _ => exact ww_c3 197 rfl rfl
  | 5, _ => exact ww_c3 199 rfl rfl
  | 6, _ => exact ww_c3 201 rfl rfl
  | 7, _ => exact ww_c3 203 rfl rfl
  | 8, _ => exact ww_c3 205 rfl rfl
  | 9, _ => exact ww_c3 207 rfl rfl
  | 10, _ => exact ww_c3 209 rfl rfl
  | 11, _ => exact ww_c3 211 rfl rfl
  | 12, _ => exact ww_c3 213 rfl rfl
  | 13, _ => exact ww_c3 215 rfl rfl
  | 14, _ => exact ww_c3 217 rfl rfl
  | 15, _ => exact ww_c3 219 rfl rfl
  | 16, _ => exact ww_c3 221 rfl rfl
  | 17, _ => exact ww_c3 223 rfl rfl
  | 18, _ => exact ww_c3 225 rfl rfl
  | 19, _ => exact ww_c3 227 rfl rfl
  | 20, _ => exact ww_c3 229 rfl rfl
  | 21, _ => exact ww_c3 231 rfl rfl
  | 22, _ => exact ww_c3 233 rfl rfl
  | 23, _ => exact ww_c3 235 rfl rfl
  | 24, _ => exact ww_c3 237 rfl rfl
  | 25, _ => exact ww_c3 239 rfl rfl
  | 26, _ => exact ww_c4 1 rfl rfl
  | 27, _ => exact ww_c4 3 rfl rfl
  | 28, _ => exact ww_c4 5 rfl rfl
  | 29, _ => exact ww_c4 7 rfl rfl
  | 30, _ => exact ww_c4 9 rfl rfl
  | 31, _ => exact ww_c4 11 rfl rfl
  | 32, _ => exact ww_c4 13 rfl rfl
  | 33, _ => exact ww_c4 15 rfl rfl
  | 34, _ => exact ww_c4 17 rfl rfl
  | 35, _ => exact ww_c4 19 rfl rfl
  | 36, _ => exact ww_c4 21 rfl rfl
  | 37, _ => exact ww_c4 23 rfl rfl
  | 38, _ => exact ww_c4 25 rfl rfl
  | 39, _ => exact ww_c4 27 rfl rfl
  | 40, _ => exact ww_c4 29 rfl rfl
  | k + 41, hk => omega)
set_option maxRecDepth 100000 in
theorem ww_C6 : mm_COk ww_tbl (RX6, TX6, 41) := ⟨ww_w6, by decide +kernel, tyX6, tyX6_ok, nmX6⟩
set_option maxRecDepth 100000 in
theorem ww_Cs : ∀ r ∈ ww_cl, mm_COk ww_tbl r := List.forall_mem_cons.mpr ⟨ww_C0, List.forall_mem_cons.mpr ⟨ww_C1, List.forall_mem_cons.mpr ⟨ww_C2, List.forall_mem_cons.mpr ⟨ww_C3, List.forall_mem_cons.mpr ⟨ww_C4, List.forall_mem_cons.mpr ⟨ww_C5, List.forall_mem_cons.mpr ⟨ww_C6, fun _ h => absurd h List.not_mem_nil⟩⟩⟩⟩⟩⟩⟩
def sc : List mm_Sh := [.inl (5, [(2, 1), (2, 2), (2, 3), (2, 4), (2, 5), (1, 0)]), .inl (1, [(0, 0), (2, 6), (2, 7), (2, 8), (2, 9), (2, 10), (2, 11), (2, 12), (0, 0)]), .inl (0, [(2, 1), (0, 0), (2, 13), (2, 14), (2, 15), (2, 16), (2, 17), (2, 18), (2, 19), (2, 20), (2, 24)]), .inl (4, [(2, 1), (2, 2), (2, 28), (2, 32), (2, 33)]), .inl (3, [(0, 0), (0, 0), (0, 0), (2, 34), (2, 35), (2, 36), (2, 37), (2, 41)]), .inl (2, [(2, 42), (2, 43)]), .inr (1, 32, []), .inr (1, 32, []), .inr (0, 32, []), .inr (0, 32, []), .inr (0, 32, []), .inr (0, 32, []), .inr (2, 16, []), .inr (0, 16, []), .inr (0, 16, []), .inr (0, 16, []), .inr (0, 16, []), .inr (0, 16, []), .inr (1, 16, []), .inr (0, 16, []), .inr (3, 3, [21, 22, 23]), .inr (0, 16, []), .inr (0, 16, []), .inr (0, 16, []), .inr (3, 3, [25, 26, 27]), .inr (0, 16, []), .inr (0, 16, []), .inr (0, 16, []), .inr (3, 3, [29, 30, 31]), .inr (0, 16, []), .inr (0, 16, []), .inr (0, 16, []), .inr (0, 16, []), .inr (0, 16, []), .inr (0, 201, []), .inr (0, 201, []), .inr (1, 201, []), .inr (3, 3, [38, 39, 40]), .inr (0, 201, []), .inr (0, 201, []), .inr (0, 201, []), .inr (0, 200, []), .inr (1, 4, []), .inr (3, 4, [44, 45, 46, 47]), .inr (0, 16, []), .inr (0, 16, []), .inr (0, 16, []), .inr (0, 16, [])]
set_option maxRecDepth 100000 in
theorem sc_o0 : mm_SOk ww_cl (.inl (5, [(2, 1), (2, 2), (2, 3), (2, 4), (2, 5), (1, 0)])) := by
  intro ci fs h
  cases h
  refine ⟨_, _, _, rfl, rfl, fun j t q hj => ?_⟩
  match j, hj with
  | 0, hj => cases hj; exact ⟨by decide +kernel, by decide +kernel⟩
  | 1, hj => cases hj; exact ⟨by decide +kernel, by decide +kernel⟩
  | 2, hj => cases hj; exact ⟨by decide +kernel, by decide +kernel⟩
  | 3, hj => cases hj; exact ⟨by decide +kernel, by decide +kernel⟩
  | 4, hj => cases hj; exact ⟨by decide +kernel, by decide +kernel⟩
  | 5, hj => cases hj; exact ⟨by decide +kernel, by decide +kernel⟩
  | j + 6, hj => simp at hj
set_option maxRecDepth 100000 in
theorem sc_o1 : mm_SOk ww_cl (.inl (1, [(0, 0), (2, 6), (2, 7), (2, 8), (2, 9), (2, 10), (2, 11), (2, 12), (0, 0)])) := by
  intro ci fs h
  cases h
  refine ⟨_, _, _, rfl, rfl, fun j t q hj => ?_⟩
  match j, hj with
  | 0, hj => cases hj; exact ⟨by decide +kernel, by decide +kernel⟩
  | 1, hj => cases hj; exact ⟨by decide +kernel, by decide +kernel⟩
  | 2, hj => cases hj; exact ⟨by decide +kernel, by decide +kernel⟩
  | 3, hj => cases hj; exact ⟨by decide +kernel, by decide +kernel⟩
  | 4, hj => cases hj; exact ⟨by decide +kernel, by decide +kernel⟩
  | 5, hj => cases hj; exact ⟨by decide +kernel, by decide +kernel⟩
  | 6, hj => cases hj; exact ⟨by decide +kernel, by decide +kernel⟩
  | 7, hj => cases hj; exact ⟨by decide +kernel, by decide +kernel⟩
  | 8, hj => cases hj; exact ⟨by decide +kernel, by decide +kernel⟩
  | j + 9, hj => simp at hj
set_option maxRecDepth 100000 in
theorem sc_o2 : mm_SOk ww_cl (.inl (0, [(2, 1), (0, 0), (2, 13), (2, 14), (2, 15), (2, 16), (2, 17), (2, 18), (2, 19), (2, 20), (2, 24)])) := by
  intro ci fs h
  cases h
  refine ⟨_, _, _, rfl, rfl, fun j t q hj => ?_⟩
  match j, hj with
  | 0, hj => cases hj; exact ⟨by decide +kernel, by decide +kernel⟩
  | 1, hj => cases hj; exact ⟨by decide +kernel, by decide +kernel⟩
  | 2, hj => cases hj; exact ⟨by decide +kernel, by decide +kernel⟩
  | 3, hj => cases hj; exact ⟨by decide +kernel, by decide +kernel⟩
  | 4, hj => cases hj; exact ⟨by decide +kernel, by decide +kernel⟩
  | 5, hj => cases hj; exact ⟨by decide +kernel, by decide +kernel⟩
  | 6, hj => cases hj; exact ⟨by decide +kernel, by decide +kernel⟩
  | 7, hj => cases hj; exact ⟨by decide +kernel, by decide +kernel⟩
  | 8, hj => cases hj; exact ⟨by decide +kernel, by decide +kernel⟩
  | 9, hj => cases hj; exact ⟨by decide +kernel, by decide +kernel⟩
  | 10, hj => cases hj; exact ⟨by decide +kernel, by decide +kernel⟩
  | j + 11, hj => simp at hj
set_option maxRecDepth 100000 in
theorem sc_o3 : mm_SOk ww_cl (.inl (4, [(2, 1), (2, 2), (2, 28), (2, 32), (2, 33)])) := by
  intro ci fs h
  cases h
  refine ⟨_, _, _, rfl, rfl, fun j t q hj => ?_⟩
  match j, hj with
  | 0, hj => cases hj; exact ⟨by decide +kernel, by decide +kernel⟩
  | 1, hj => cases hj; exact ⟨by decide +kernel, by decide +kernel⟩
  | 2, hj => cases hj; exact ⟨by decide +kernel, by decide +kernel⟩
  | 3, hj => cases hj; exact ⟨by decide +kernel, by decide +kernel⟩
  | 4, hj => cases hj; exact ⟨by decide +kernel, by decide +kernel⟩
  | j + 5, hj => simp at hj
set_option maxRecDepth 100000 in
theorem sc_o4 : mm_SOk ww_cl (.inl (3, [(0, 0), (0, 0), (0, 0), (2, 34), (2, 35), (2, 36), (2, 37), (2, 41)])) := by
  intro ci fs h
  cases h
  refine ⟨_, _, _, rfl, rfl, fun j t q hj => ?_⟩
  match j, hj with
  | 0, hj => cases hj; exact ⟨by decide +kernel, by decide +kernel⟩
  | 1, hj => cases hj; exact ⟨by decide +kernel, by decide +kernel⟩
  | 2, hj => cases hj; exact ⟨by decide +kernel, by decide +kernel⟩
  | 3, hj => cases hj; exact ⟨by decide +kernel, by decide +kernel⟩
  | 4, hj => cases hj; exact ⟨by decide +kernel, by decide +kernel⟩
  | 5, hj => cases hj; exact ⟨by decide +kernel, by decide +kernel⟩
  | 6, hj => cases hj; exact ⟨by decide +kernel, by decide +kernel⟩
  | 7, hj => cases hj; exact ⟨by decide +kernel, by decide +kernel⟩
  | j + 8, hj => simp at hj
set_option maxRecDepth 100000 in
theorem sc_o5 : mm_SOk ww_cl (.inl (2, [(2, 42), (2, 43)])) := by
  intro ci fs h
  cases h
  refine ⟨_, _, _, rfl, rfl, fun j t q hj => ?_⟩
  match j, hj with
  | 0, hj => cases hj; exact ⟨by decide +kernel, by decide +kernel⟩
  | 1, hj => cases hj; exact ⟨by decide +kernel, by decide +kernel⟩
  | j + 2, hj => simp at hj
set_option maxRecDepth 100000 in
theorem sc_ok : ∀ x ∈ sc, mm_SOk ww_cl x := List.forall_mem_cons.mpr ⟨sc_o0, List.forall_mem_cons.mpr ⟨sc_o1, List.forall_mem_cons.mpr ⟨sc_o2, List.forall_mem_cons.mpr ⟨sc_o3, List.forall_mem_cons.mpr ⟨sc_o4, List.forall_mem_cons.mpr ⟨sc_o5, List.forall_mem_cons.mpr ⟨(fun _ _ h => by cases h), List.forall_mem_cons.mpr ⟨(fun _ _ h => by cases h), List.forall_mem_cons.mpr ⟨(fun _ _ h => by cases h), List.forall_mem_cons.mpr ⟨(fun _ _ h => by cases h), List.forall_mem_cons.mpr ⟨(fun _ _ h => by cases h), List.forall_mem_cons.mpr ⟨(fun _ _ h => by cases h), List.forall_mem_cons.mpr ⟨(fun _ _ h => by cases h), List.forall_mem_cons.mpr ⟨(fun _ _ h => by cases h), List.forall_mem_cons.mpr ⟨(fun _ _ h => by cases h), List.forall_mem_cons.mpr ⟨(fun _ _ h => by cases h), List.forall_mem_cons.mpr ⟨(fun _ _ h => by cases h), List.forall_mem_cons.mpr ⟨(fun _ _ h => by cases h), List.forall_mem_cons.mpr ⟨(fun _ _ h => by cases h), List.forall_mem_cons.mpr ⟨(fun _ _ h => by cases h), List.forall_mem_cons.mpr ⟨(fun _ _ h => by cases h), List.forall_mem_cons.mpr ⟨(fun _ _ h => by cases h), List.forall_mem_cons.mpr ⟨(fun _ _ h => by cases h), List.forall_mem_cons.mpr ⟨(fun _ _ h => by cases h), List.forall_mem_cons.mpr ⟨(fun _ _ h => by cases h), List.forall_mem_cons.mpr ⟨(fun _ _ h => by cases h), List.forall_mem_cons.mpr ⟨(fun _ _ h => by cases h), List.forall_mem_cons.mpr ⟨(fun _ _ h => by cases h), List.forall_mem_cons.mpr ⟨(fun _ _ h => by cases h), List.forall_mem_cons.mpr ⟨(fun _ _ h => by cases h), List.forall_mem_cons.mpr ⟨(fun _ _ h => by cases h), List.forall_mem_cons.mpr ⟨(fun _ _ h => by cases h), List.forall_mem_cons.mpr ⟨(fun _ _ h => by cases h), List.forall_mem_cons.mpr ⟨(fun _ _ h => by cases h), List.forall_mem_cons.mpr ⟨(fun _ _ h => by cases h), List.forall_mem_cons.mpr ⟨(fun _ _ h => by cases h), List.forall_mem_cons.mpr ⟨(fun _ _ h => by cases h), List.forall_mem_cons.mpr ⟨(fun _ _ h => by cases h), List.forall_mem_cons.mpr ⟨(fun _ _ h => by cases h), List.forall_mem_cons.mpr ⟨(fun _ _ h => by cases h), List.forall_mem_cons.mpr ⟨(fun _ _ h => by cases h), List.forall_mem_cons.mpr ⟨(fun _ _ h => by cases h), List.forall_mem_cons.mpr ⟨(fun _ _ h => by cases h), List.forall_mem_cons.mpr ⟨(fun _ _ h => by cases h), List.forall_mem_cons.mpr ⟨(fun _ _ h => by cases h), List.forall_mem_cons.mpr ⟨(fun _ _ h => by cases h), List.forall_mem_cons.mpr ⟨(fun _ _ h => by cases h), List.forall_mem_cons.mpr ⟨(fun _ _ h => by cases h), fun _ h => absurd h List.not_mem_nil⟩⟩⟩⟩⟩⟩⟩⟩⟩⟩⟩⟩⟩⟩⟩⟩⟩⟩⟩⟩⟩⟩⟩⟩⟩⟩⟩⟩⟩⟩⟩⟩⟩⟩⟩⟩⟩⟩⟩⟩⟩⟩⟩⟩⟩⟩⟩⟩
def sr : List mm_Sh := [.inl (6, [(0, 0), (2, 1), (2, 2), (2, 3), (2, 4), (0, 0), (2, 5), (2, 6), (2, 7), (2, 8), (2, 9), (2, 10), (2, 11), (2, 12), (2, 13), (1, 0), (2, 14), (2, 15), (2, 16), (2, 17), (0, 0), (2, 18), (2, 19), (0, 0), (0, 0), (2, 20), (2, 21), (2, 22), (2, 23), (2, 24), (2, 25), (0, 0), (2, 26), (2, 27), (2, 28), (2, 29), (2, 30), (0, 0), (2, 31), (2, 32), (2, 33)]), .inr (1, 32, []), .inr (1, 32, []), .inr (0, 32, []), .inr (0, 64, []), .inr (0, 16, []), .inr (0, 16, []), .inr (0, 16, []), .inr (0, 16, []), .inr (0, 16, []), .inr (1, 16, []), .inr (0, 16, []), .inr (0, 48, []), .inr (0, 48, []), .inr (0, 48, []), .inr (0, 16, []), .inr (0, 16, []), .inr (2, 16, []), .inr (2, 64, []), .inr (2, 64, []), .inr (0, 201, []), .inr (0, 201, []), .inr (0, 201, []), .inr (1, 201, []), .inr (1, 201, []), .inr (0, 201, []), .inr (0, 16, []), .inr (0, 16, []), .inr (0, 16, []), .inr (0, 16, []), .inr (1, 16, []), .inr (0, 16, []), .inr (1, 4, []), .inr (0, 64, [])]
set_option maxRecDepth 100000 in
theorem sr_o0 : mm_SOk ww_cl (.inl (6, [(0, 0), (2, 1), (2, 2), (2, 3), (2, 4), (0, 0), (2, 5), (2, 6), (2, 7), (2, 8), (2, 9), (2, 10), (2, 11), (2, 12), (2, 13), (1, 0), (2, 14), (2, 15), (2, 16), (2, 17), (0, 0), (2, 18), (2, 19), (0, 0), (0, 0), (2, 20), (2, 21), (2, 22), (2, 23), (2, 24), (2, 25), (0, 0), (2, 26), (2, 27), (2, 28), (2, 29), (2, 30), (0, 0), (2, 31), (2, 32), (2, 33)])) := by
  intro ci fs h
  cases h
  refine ⟨_, _, _, rfl, rfl, fun j t q hj => ?_⟩
  match j, hj with
  | 0, hj => cases hj; exact ⟨by decide +kernel, by decide +kernel⟩
  | 1, hj => cases hj; exact ⟨by decide +kernel, by decide +kernel⟩
  | 2, hj => cases hj; exact ⟨by decide +kernel, by decide +kernel⟩
  | 3, hj => cases hj; exact ⟨by decide +kernel, by decide +kernel⟩
  | 4, hj => cases hj; exact ⟨by decide +kernel, by decide +kernel⟩
  | 5, hj => cases hj; exact ⟨by decide +kernel, by decide +kernel⟩
  | 6, hj => cases hj; exact ⟨by decide +kernel, by decide +kernel⟩
  | 7, hj => cases hj; exact ⟨by decide +kernel, by decide +kernel⟩
  | 8, hj => cases hj; exact ⟨by decide +kernel, by decide +kernel⟩
  | 9, hj => cases hj; exact ⟨by decide +kernel, by decide +kernel⟩
  | 10, hj => cases hj; exact ⟨by decide +kernel, by decide +kernel⟩
  | 11, hj => cases hj; exact ⟨by decide +kernel, by decide +kernel⟩
  | 12, hj => cases hj; exact ⟨by decide +kernel, by decide +kernel⟩
  | 13, hj => cases hj; exact ⟨by decide +kernel, by decide +kernel⟩
  | 14, hj => cases hj; exact ⟨by decide +kernel, by decide +kernel⟩
  | 15, hj => cases hj; exact ⟨by decide +kernel, by decide +kernel⟩
  | 16, hj => cases hj; exact ⟨by decide +kernel, by decide +kernel⟩
  | 17, hj => cases hj; exact ⟨by decide +kernel, by decide +kernel⟩
  | 18, hj => cases hj; exact ⟨by decide +kernel, by decide +kernel⟩
  | 19, hj => cases hj; exact ⟨by decide +kernel, by decide +kernel⟩
  | 20, hj => cases hj; exact ⟨by decide +kernel, by decide +kernel⟩
  | 21, hj => cases hj; exact ⟨by decide +kernel, by decide +kernel⟩
  | 22, hj => cases hj; exact ⟨by decide +kernel, by decide +kernel⟩
  | 23, hj => cases hj; exact ⟨by decide +kernel, by decide +kernel⟩
  | 24, hj => cases hj; exact ⟨by decide +kernel, by decide +kernel⟩
  | 25, hj => cases hj; exact ⟨by decide +kernel, by decide +kernel⟩
  | 26, hj => cases hj; exact ⟨by decide +kernel, by decide +kernel⟩
  | 27, hj => cases hj; exact ⟨by decide +kernel, by decide +kernel⟩
  | 28, hj => cases hj; exact ⟨by decide +kernel, by decide +kernel⟩
  | 29, hj => cases hj; exact ⟨by decide +kernel, by decide +kernel⟩
  | 30, hj => cases hj; exact ⟨by decide +kernel, by decide +kernel⟩
  | 31, hj => cases hj; exact ⟨by decide +kernel, by decide +kernel⟩
  | 32, hj => cases hj; exact ⟨by decide +kernel, by decide +kernel⟩
  | 33, hj => cases hj; exact ⟨by decide +kernel, by decide +kernel⟩
  | 34, hj => cases hj; exact ⟨by decide +kernel, by decide +kernel⟩
  | 35, hj => cases hj; exact ⟨by decide +kernel, by decide +kernel⟩
  | 36, hj => cases hj; exact ⟨by decide +kernel, by decide +kernel⟩
  | 37, hj => cases hj; exact ⟨by decide +kernel, by decide +kernel⟩
  | 38, hj => cases hj; exact ⟨by decide +kernel, by decide +kernel⟩
  | 39, hj => cases hj; exact ⟨by decide +kernel, by decide +kernel⟩
  | 40, hj => cases hj; exact ⟨by decide +kernel, by decide +kernel⟩
  | j + 41, hj => simp at hj
set_option maxRecDepth 100000 in
theorem sr_ok : ∀ x ∈ sr, mm_SOk ww_cl x := List.forall_mem_cons.mpr ⟨sr_o0, List.forall_mem_cons.mpr ⟨(fun _ _ h => by cases h), List.forall_mem_cons.mpr ⟨(fun _ _ h => by cases h), List.forall_mem_cons.mpr ⟨(fun _ _ h => by cases h), List.forall_mem_cons.mpr ⟨(fun _ _ h => by cases h), List.forall_mem_cons.mpr ⟨(fun _ _ h => by cases h), List.forall_mem_cons.mpr ⟨(fun _ _ h => by cases h), List.forall_mem_cons.mpr ⟨(fun _ _ h => by cases h), List.forall_mem_cons.mpr ⟨(fun _ _ h => by cases h), List.forall_mem_cons.mpr ⟨(fun _ _ h => by cases h), List.forall_mem_cons.mpr ⟨(fun _ _ h => by cases h), List.forall_mem_cons.mpr ⟨(fun _ _ h => by cases h), List.forall_mem_cons.mpr ⟨(fun _ _ h => by cases h), List.forall_mem_cons.mpr ⟨(fun _ _ h => by cases h), List.forall_mem_cons.mpr ⟨(fun _ _ h => by cases h), List.forall_mem_cons.mpr ⟨(fun _ _ h => by cases h), List.forall_mem_cons.mpr ⟨(fun _ _ h => by cases h), List.forall_mem_cons.mpr ⟨(fun _ _ h => by cases h), List.forall_mem_cons.mpr ⟨(fun _ _ h => by cases h), List.forall_mem_cons.mpr ⟨(fun _ _ h => by cases h), List.forall_mem_cons.mpr ⟨(fun _ _ h => by cases h), List.forall_mem_cons.mpr ⟨(fun _ _ h => by cases h), List.forall_mem_cons.mpr ⟨(fun _ _ h => by cases h), List.forall_mem_cons.mpr ⟨(fun _ _ h => by cases h), List.forall_mem_cons.mpr ⟨(fun _ _ h => by cases h), List.forall_mem_cons.mpr ⟨(fun _ _ h => by cases h), List.forall_mem_cons.mpr ⟨(fun _ _ h => by cases h), List.forall_mem_cons.mpr ⟨(fun _ _ h => by cases h), List.forall_mem_cons.mpr ⟨(fun _ _ h => by cases h), List.forall_mem_cons.mpr ⟨(fun _ _ h => by cases h), List.forall_mem_cons.mpr ⟨(fun _ _ h => by cases h), List.forall_mem_cons.mpr ⟨(fun _ _ h => by cases h), List.forall_mem_cons.mpr ⟨(fun _ _ h => by cases h), List.forall_mem_cons.mpr ⟨(fun _ _ h => by cases h), fun _ h => absurd h List.not_mem_nil⟩⟩⟩⟩⟩⟩⟩⟩⟩⟩⟩⟩⟩⟩⟩⟩⟩⟩⟩⟩⟩⟩⟩⟩⟩⟩⟩⟩⟩⟩⟩⟩⟩⟩
