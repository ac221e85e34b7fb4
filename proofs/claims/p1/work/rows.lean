section
def R_Row : String := "AddressHouse$Row"
def F_Row : u_T := fun k => match k with
  | 0 => ("AddressHouse$Row", "cells", "[B", true)
  | 1 => ("AddressHouse$Row", "size", "I", false)
  | _ => ("AddressHouse$Row", "over", "Z", false)
def t_Row : Nat → FieldType := fun k => match k with
  | 0 => .array .byte
  | 1 => .int
  | _ => .boolean
theorem n_Row : ∀ a, a < 3 → ∀ b, b < 3 → a ≠ b → (F_Row a).2.1 ≠ (F_Row b).2.1 := by decide +kernel
theorem t_Row_ok : ∀ k, k < 3 → parseFieldDescriptor (F_Row k).2.2.1 = some (t_Row k) := by decide +kernel
def R_Wire : String := "AddressHouse$Wire"
def F_Wire : u_T := fun k => match k with
  | 0 => ("AddressHouse$Wire", "head", "LAddressHouse$Row;", true)
  | 1 => ("AddressHouse$Wire", "load", "LAddressHouse$Row;", true)
  | 2 => ("AddressHouse$Wire", "from", "[I", true)
  | 3 => ("AddressHouse$Wire", "to", "[I", true)
  | 4 => ("AddressHouse$Wire", "alive", "Z", false)
  | 5 => ("AddressHouse$Wire", "methodTo", "I", false)
  | 6 => ("AddressHouse$Wire", "targetTo", "I", false)
  | 7 => ("AddressHouse$Wire", "state", "I", false)
  | 8 => ("AddressHouse$Wire", "need", "I", false)
  | 9 => ("AddressHouse$Wire", "digits", "I", false)
  | _ => ("AddressHouse$Wire", "twice", "Z", false)
def t_Wire : Nat → FieldType := fun k => match k with
  | 0 => .object "AddressHouse$Row"
  | 1 => .object "AddressHouse$Row"
  | 2 => .array .int
  | 3 => .array .int
  | 4 => .boolean
  | 5 => .int
  | 6 => .int
  | 7 => .int
  | 8 => .int
  | 9 => .int
  | _ => .boolean
theorem n_Wire : ∀ a, a < 11 → ∀ b, b < 11 → a ≠ b → (F_Wire a).2.1 ≠ (F_Wire b).2.1 := by decide +kernel
theorem t_Wire_ok : ∀ k, k < 11 → parseFieldDescriptor (F_Wire k).2.2.1 = some (t_Wire k) := by decide +kernel
def R_Book : String := "AddressHouse$Book"
def F_Book : u_T := fun k => match k with
  | 0 => ("AddressHouse$Book", "owner", "I", false)
  | 1 => ("AddressHouse$Book", "made", "I", false)
  | 2 => ("AddressHouse$Book", "name", "LAddressHouse$Row;", true)
  | 3 => ("AddressHouse$Book", "title", "LAddressHouse$Row;", true)
  | 4 => ("AddressHouse$Book", "hasTitle", "Z", false)
  | 5 => ("AddressHouse$Book", "note", "LAddressHouse$Row;", true)
  | 6 => ("AddressHouse$Book", "hasNote", "Z", false)
  | 7 => ("AddressHouse$Book", "readers", "[I", true)
  | 8 => ("AddressHouse$Book", "readerCount", "I", false)
  | 9 => ("AddressHouse$Book", "goneNames", "[LAddressHouse$Row;", true)
  | 10 => ("AddressHouse$Book", "goneChanges", "[I", true)
  | 11 => ("AddressHouse$Book", "goneCount", "I", false)
  | _ => ("AddressHouse$Book", "forgotten", "I", false)
def t_Book : Nat → FieldType := fun k => match k with
  | 0 => .int
  | 1 => .int
  | 2 => .object "AddressHouse$Row"
  | 3 => .object "AddressHouse$Row"
  | 4 => .boolean
  | 5 => .object "AddressHouse$Row"
  | 6 => .boolean
  | 7 => .array .int
  | 8 => .int
  | 9 => .array (.object "AddressHouse$Row")
  | 10 => .array .int
  | 11 => .int
  | _ => .int
theorem n_Book : ∀ a, a < 13 → ∀ b, b < 13 → a ≠ b → (F_Book a).2.1 ≠ (F_Book b).2.1 := by decide +kernel
theorem t_Book_ok : ∀ k, k < 13 → parseFieldDescriptor (F_Book k).2.2.1 = some (t_Book k) := by decide +kernel
def R_Item : String := "AddressHouse$Item"
def F_Item : u_T := fun k => match k with
  | 0 => ("AddressHouse$Item", "book", "I", false)
  | 1 => ("AddressHouse$Item", "change", "I", false)
  | 2 => ("AddressHouse$Item", "name", "LAddressHouse$Row;", true)
  | 3 => ("AddressHouse$Item", "text", "LAddressHouse$Row;", true)
  | _ => ("AddressHouse$Item", "uid", "LAddressHouse$Row;", true)
def t_Item : Nat → FieldType := fun k => match k with
  | 0 => .int
  | 1 => .int
  | 2 => .object "AddressHouse$Row"
  | 3 => .object "AddressHouse$Row"
  | _ => .object "AddressHouse$Row"
theorem n_Item : ∀ a, a < 5 → ∀ b, b < 5 → a ≠ b → (F_Item a).2.1 ≠ (F_Item b).2.1 := by decide +kernel
theorem t_Item_ok : ∀ k, k < 5 → parseFieldDescriptor (F_Item k).2.2.1 = some (t_Item k) := by decide +kernel
def R_House : String := "AddressHouse$House"
def F_House : u_T := fun k => match k with
  | 0 => ("AddressHouse$House", "users", "[LAddressHouse$Row;", true)
  | 1 => ("AddressHouse$House", "nameTo", "[I", true)
  | 2 => ("AddressHouse$House", "userCount", "I", false)
  | 3 => ("AddressHouse$House", "books", "[LAddressHouse$Book;", true)
  | 4 => ("AddressHouse$House", "items", "[LAddressHouse$Item;", true)
  | 5 => ("AddressHouse$House", "changes", "I", false)
  | 6 => ("AddressHouse$House", "order", "[I", true)
  | 7 => ("AddressHouse$House", "secret", "LAddressHouse$Row;", true)
  | 8 => ("AddressHouse$House", "noBook", "LAddressHouse$Book;", true)
  | 9 => ("AddressHouse$House", "noItem", "LAddressHouse$Item;", true)
  | 10 => ("AddressHouse$House", "path", "LAddressHouse$Row;", true)
  | 11 => ("AddressHouse$House", "kind", "I", false)
  | 12 => ("AddressHouse$House", "owner", "I", false)
  | 13 => ("AddressHouse$House", "book", "I", false)
  | 14 => ("AddressHouse$House", "item", "I", false)
  | 15 => ("AddressHouse$House", "lastFrom", "I", false)
  | _ => ("AddressHouse$House", "lastTo", "I", false)
def t_House : Nat → FieldType := fun k => match k with
  | 0 => .array (.object "AddressHouse$Row")
  | 1 => .array .int
  | 2 => .int
  | 3 => .array (.object "AddressHouse$Book")
  | 4 => .array (.object "AddressHouse$Item")
  | 5 => .int
  | 6 => .array .int
  | 7 => .object "AddressHouse$Row"
  | 8 => .object "AddressHouse$Book"
  | 9 => .object "AddressHouse$Item"
  | 10 => .object "AddressHouse$Row"
  | 11 => .int
  | 12 => .int
  | 13 => .int
  | 14 => .int
  | 15 => .int
  | _ => .int
theorem n_House : ∀ a, a < 17 → ∀ b, b < 17 → a ≠ b → (F_House a).2.1 ≠ (F_House b).2.1 := by decide +kernel
theorem t_House_ok : ∀ k, k < 17 → parseFieldDescriptor (F_House k).2.2.1 = some (t_House k) := by decide +kernel
def R_Card : String := "AddressHouse$Card"
def F_Card : u_T := fun k => match k with
  | 0 => ("AddressHouse$Card", "text", "LAddressHouse$Row;", true)
  | 1 => ("AddressHouse$Card", "version", "I", false)
  | 2 => ("AddressHouse$Card", "properties", "[[I", true)
  | 3 => ("AddressHouse$Card", "size", "I", false)
  | 4 => ("AddressHouse$Card", "parameters", "[[I", true)
  | 5 => ("AddressHouse$Card", "parameterCount", "I", false)
  | 6 => ("AddressHouse$Card", "valueFrom", "[I", true)
  | 7 => ("AddressHouse$Card", "valueTo", "[I", true)
  | 8 => ("AddressHouse$Card", "valueCount", "I", false)
  | _ => ("AddressHouse$Card", "tally", "[I", true)
def t_Card : Nat → FieldType := fun k => match k with
  | 0 => .object "AddressHouse$Row"
  | 1 => .int
  | 2 => .array (.array .int)
  | 3 => .int
  | 4 => .array (.array .int)
  | 5 => .int
  | 6 => .array .int
  | 7 => .array .int
  | 8 => .int
  | _ => .array .int
theorem n_Card : ∀ a, a < 10 → ∀ b, b < 10 → a ≠ b → (F_Card a).2.1 ≠ (F_Card b).2.1 := by decide +kernel
theorem t_Card_ok : ∀ k, k < 10 → parseFieldDescriptor (F_Card k).2.2.1 = some (t_Card k) := by decide +kernel
def R_Xml : String := "AddressHouse$Xml"
def F_Xml : u_T := fun k => match k with
  | 0 => ("AddressHouse$Xml", "elements", "[[I", true)
  | 1 => ("AddressHouse$Xml", "size", "I", false)
  | 2 => ("AddressHouse$Xml", "attributes", "[[I", true)
  | 3 => ("AddressHouse$Xml", "attributeCount", "I", false)
  | 4 => ("AddressHouse$Xml", "values", "LAddressHouse$Row;", true)
  | 5 => ("AddressHouse$Xml", "spaces", "[[I", true)
  | 6 => ("AddressHouse$Xml", "spaceCount", "I", false)
  | 7 => ("AddressHouse$Xml", "bindings", "[[I", true)
  | 8 => ("AddressHouse$Xml", "bindingCount", "I", false)
  | 9 => ("AddressHouse$Xml", "marks", "[I", true)
  | 10 => ("AddressHouse$Xml", "stack", "[I", true)
  | 11 => ("AddressHouse$Xml", "depth", "I", false)
  | 12 => ("AddressHouse$Xml", "loose", "LAddressHouse$Row;", true)
  | 13 => ("AddressHouse$Xml", "owners", "[I", true)
  | 14 => ("AddressHouse$Xml", "texts", "LAddressHouse$Row;", true)
  | 15 => ("AddressHouse$Xml", "source", "LAddressHouse$Row;", false)
  | _ => ("AddressHouse$Xml", "pos", "I", false)
def t_Xml : Nat → FieldType := fun k => match k with
  | 0 => .array (.array .int)
  | 1 => .int
  | 2 => .array (.array .int)
  | 3 => .int
  | 4 => .object "AddressHouse$Row"
  | 5 => .array (.array .int)
  | 6 => .int
  | 7 => .array (.array .int)
  | 8 => .int
  | 9 => .array .int
  | 10 => .array .int
  | 11 => .int
  | 12 => .object "AddressHouse$Row"
  | 13 => .array .int
  | 14 => .object "AddressHouse$Row"
  | 15 => .object "AddressHouse$Row"
  | _ => .int
theorem n_Xml : ∀ a, a < 17 → ∀ b, b < 17 → a ≠ b → (F_Xml a).2.1 ≠ (F_Xml b).2.1 := by decide +kernel
theorem t_Xml_ok : ∀ k, k < 17 → parseFieldDescriptor (F_Xml k).2.2.1 = some (t_Xml k) := by decide +kernel
def R_Scribe : String := "AddressHouse$Scribe"
def F_Scribe : u_T := fun k => match k with
  | 0 => ("AddressHouse$Scribe", "card", "LAddressHouse$Card;", true)
  | 1 => ("AddressHouse$Scribe", "xml", "LAddressHouse$Xml;", true)
  | 2 => ("AddressHouse$Scribe", "line", "LAddressHouse$Row;", true)
  | 3 => ("AddressHouse$Scribe", "part", "LAddressHouse$Row;", true)
  | 4 => ("AddressHouse$Scribe", "page", "LAddressHouse$Row;", false)
  | 5 => ("AddressHouse$Scribe", "picker", "I", false)
  | 6 => ("AddressHouse$Scribe", "choosy", "Z", false)
  | 7 => ("AddressHouse$Scribe", "nameEnd", "I", false)
  | _ => ("AddressHouse$Scribe", "valueStart", "I", false)
def t_Scribe : Nat → FieldType := fun k => match k with
  | 0 => .object "AddressHouse$Card"
  | 1 => .object "AddressHouse$Xml"
  | 2 => .object "AddressHouse$Row"
  | 3 => .object "AddressHouse$Row"
  | 4 => .object "AddressHouse$Row"
  | 5 => .int
  | 6 => .boolean
  | 7 => .int
  | _ => .int
theorem n_Scribe : ∀ a, a < 9 → ∀ b, b < 9 → a ≠ b → (F_Scribe a).2.1 ≠ (F_Scribe b).2.1 := by decide +kernel
theorem t_Scribe_ok : ∀ k, k < 9 → parseFieldDescriptor (F_Scribe k).2.2.1 = some (t_Scribe k) := by decide +kernel
def R_Filter : String := "AddressHouse$Filter"
def F_Filter : u_T := fun k => match k with
  | 0 => ("AddressHouse$Filter", "xml", "LAddressHouse$Xml;", true)
  | 1 => ("AddressHouse$Filter", "card", "LAddressHouse$Card;", true)
  | 2 => ("AddressHouse$Filter", "filters", "[[I", true)
  | 3 => ("AddressHouse$Filter", "filterCount", "I", false)
  | 4 => ("AddressHouse$Filter", "tests", "[[I", true)
  | 5 => ("AddressHouse$Filter", "testCount", "I", false)
  | 6 => ("AddressHouse$Filter", "all", "Z", false)
  | 7 => ("AddressHouse$Filter", "needles", "LAddressHouse$Row;", true)
  | _ => ("AddressHouse$Filter", "value", "LAddressHouse$Row;", true)
def t_Filter : Nat → FieldType := fun k => match k with
  | 0 => .object "AddressHouse$Xml"
  | 1 => .object "AddressHouse$Card"
  | 2 => .array (.array .int)
  | 3 => .int
  | 4 => .array (.array .int)
  | 5 => .int
  | 6 => .boolean
  | 7 => .object "AddressHouse$Row"
  | _ => .object "AddressHouse$Row"
theorem n_Filter : ∀ a, a < 9 → ∀ b, b < 9 → a ≠ b → (F_Filter a).2.1 ≠ (F_Filter b).2.1 := by decide +kernel
theorem t_Filter_ok : ∀ k, k < 9 → parseFieldDescriptor (F_Filter k).2.2.1 = some (t_Filter k) := by decide +kernel
def R_Listing : String := "AddressHouse$Listing"
def F_Listing : u_T := fun k => match k with
  | 0 => ("AddressHouse$Listing", "body", "LAddressHouse$Row;", true)
  | 1 => ("AddressHouse$Listing", "data", "LAddressHouse$Row;", true)
  | 2 => ("AddressHouse$Listing", "user", "I", false)
  | 3 => ("AddressHouse$Listing", "book", "I", false)
  | 4 => ("AddressHouse$Listing", "mode", "I", false)
  | 5 => ("AddressHouse$Listing", "asked", "[I", true)
  | 6 => ("AddressHouse$Listing", "codes", "[I", true)
  | 7 => ("AddressHouse$Listing", "askedCount", "I", false)
  | 8 => ("AddressHouse$Listing", "dataElement", "I", false)
  | 9 => ("AddressHouse$Listing", "kinds", "[I", true)
  | 10 => ("AddressHouse$Listing", "indexes", "[I", true)
  | 11 => ("AddressHouse$Listing", "statuses", "[I", true)
  | 12 => ("AddressHouse$Listing", "entryCount", "I", false)
  | 13 => ("AddressHouse$Listing", "house", "LAddressHouse$House;", true)
  | 14 => ("AddressHouse$Listing", "xml", "LAddressHouse$Xml;", true)
  | _ => ("AddressHouse$Listing", "name", "LAddressHouse$Row;", true)
def t_Listing : Nat → FieldType := fun k => match k with
  | 0 => .object "AddressHouse$Row"
  | 1 => .object "AddressHouse$Row"
  | 2 => .int
  | 3 => .int
  | 4 => .int
  | 5 => .array .int
  | 6 => .array .int
  | 7 => .int
  | 8 => .int
  | 9 => .array .int
  | 10 => .array .int
  | 11 => .array .int
  | 12 => .int
  | 13 => .object "AddressHouse$House"
  | 14 => .object "AddressHouse$Xml"
  | _ => .object "AddressHouse$Row"
theorem n_Listing : ∀ a, a < 16 → ∀ b, b < 16 → a ≠ b → (F_Listing a).2.1 ≠ (F_Listing b).2.1 := by decide +kernel
theorem t_Listing_ok : ∀ k, k < 16 → parseFieldDescriptor (F_Listing k).2.2.1 = some (t_Listing k) := by decide +kernel
def R_Clerk : String := "AddressHouse$Clerk"
def F_Clerk : u_T := fun k => match k with
  | 0 => ("AddressHouse$Clerk", "xmlRight", "Z", false)
  | 1 => ("AddressHouse$Clerk", "status", "I", false)
  | 2 => ("AddressHouse$Clerk", "page", "LAddressHouse$Row;", false)
  | 3 => ("AddressHouse$Clerk", "version", "I", false)
  | 4 => ("AddressHouse$Clerk", "house", "LAddressHouse$House;", true)
  | 5 => ("AddressHouse$Clerk", "listing", "LAddressHouse$Listing;", true)
  | 6 => ("AddressHouse$Clerk", "card", "LAddressHouse$Card;", true)
  | 7 => ("AddressHouse$Clerk", "xml", "LAddressHouse$Xml;", true)
  | 8 => ("AddressHouse$Clerk", "filter", "LAddressHouse$Filter;", true)
  | 9 => ("AddressHouse$Clerk", "told", "LAddressHouse$Row;", true)
  | 10 => ("AddressHouse$Clerk", "plain", "LAddressHouse$Row;", true)
  | 11 => ("AddressHouse$Clerk", "wire", "LAddressHouse$Wire;", false)
  | 12 => ("AddressHouse$Clerk", "closing", "Z", false)
  | 13 => ("AddressHouse$Clerk", "type", "I", false)
  | 14 => ("AddressHouse$Clerk", "method", "I", false)
  | 15 => ("AddressHouse$Clerk", "user", "I", false)
  | 16 => ("AddressHouse$Clerk", "querying", "Z", false)
  | _ => ("AddressHouse$Clerk", "tail", "I", false)
def t_Clerk : Nat → FieldType := fun k => match k with
  | 0 => .boolean
  | 1 => .int
  | 2 => .object "AddressHouse$Row"
  | 3 => .int
  | 4 => .object "AddressHouse$House"
  | 5 => .object "AddressHouse$Listing"
  | 6 => .object "AddressHouse$Card"
  | 7 => .object "AddressHouse$Xml"
  | 8 => .object "AddressHouse$Filter"
  | 9 => .object "AddressHouse$Row"
  | 10 => .object "AddressHouse$Row"
  | 11 => .object "AddressHouse$Wire"
  | 12 => .boolean
  | 13 => .int
  | 14 => .int
  | 15 => .int
  | 16 => .boolean
  | _ => .int
theorem n_Clerk : ∀ a, a < 18 → ∀ b, b < 18 → a ≠ b → (F_Clerk a).2.1 ≠ (F_Clerk b).2.1 := by decide +kernel
theorem t_Clerk_ok : ∀ k, k < 18 → parseFieldDescriptor (F_Clerk k).2.2.1 = some (t_Clerk k) := by decide +kernel
def R_Top : String := "AddressHouse"
def F_Top : u_T := fun k => match k with
  | 0 => ("AddressHouse", "tape", "LAddressHouse$Row;", true)
  | 1 => ("AddressHouse", "answers", "LAddressHouse$Row;", true)
  | 2 => ("AddressHouse", "wires", "[LAddressHouse$Wire;", true)
  | 3 => ("AddressHouse", "house", "LAddressHouse$House;", true)
  | 4 => ("AddressHouse", "card", "LAddressHouse$Card;", true)
  | 5 => ("AddressHouse", "scribe", "LAddressHouse$Scribe;", true)
  | 6 => ("AddressHouse", "xml", "LAddressHouse$Xml;", true)
  | 7 => ("AddressHouse", "listing", "LAddressHouse$Listing;", true)
  | _ => ("AddressHouse", "clerk", "LAddressHouse$Clerk;", true)
def t_Top : Nat → FieldType := fun k => match k with
  | 0 => .object "AddressHouse$Row"
  | 1 => .object "AddressHouse$Row"
  | 2 => .array (.object "AddressHouse$Wire")
  | 3 => .object "AddressHouse$House"
  | 4 => .object "AddressHouse$Card"
  | 5 => .object "AddressHouse$Scribe"
  | 6 => .object "AddressHouse$Xml"
  | 7 => .object "AddressHouse$Listing"
  | _ => .object "AddressHouse$Clerk"
theorem n_Top : ∀ a, a < 9 → ∀ b, b < 9 → a ≠ b → (F_Top a).2.1 ≠ (F_Top b).2.1 := by decide +kernel
theorem t_Top_ok : ∀ k, k < 9 → parseFieldDescriptor (F_Top k).2.2.1 = some (t_Top k) := by decide +kernel
abbrev b_Row_init : ByteArray := prog_9_method_1_code
def y_Row_init : MethodName := ⟨"AddressHouse$Row", "<init>", "(I)V"⟩
abbrev b_Row_clear : ByteArray := prog_9_method_2_code
def y_Row_clear : MethodName := ⟨"AddressHouse$Row", "clear", "()V"⟩
abbrev b_Row_cutTo : ByteArray := prog_9_method_3_code
def y_Row_cutTo : MethodName := ⟨"AddressHouse$Row", "cutTo", "(I)V"⟩
abbrev b_Row_at : ByteArray := prog_9_method_4_code
def y_Row_at : MethodName := ⟨"AddressHouse$Row", "at", "(I)I"⟩
abbrev b_Row_put : ByteArray := prog_9_method_5_code
def y_Row_put : MethodName := ⟨"AddressHouse$Row", "put", "(I)V"⟩
abbrev b_Row_four : ByteArray := prog_9_method_6_code
def y_Row_four : MethodName := ⟨"AddressHouse$Row", "four", "(I)V"⟩
abbrev b_Wire_init : ByteArray := prog_11_method_1_code
def y_Wire_init : MethodName := ⟨"AddressHouse$Wire", "<init>", "()V"⟩
abbrev b_Wire_next : ByteArray := prog_11_method_2_code
def y_Wire_next : MethodName := ⟨"AddressHouse$Wire", "next", "()V"⟩
abbrev b_Book_init : ByteArray := prog_2_method_1_code
def y_Book_init : MethodName := ⟨"AddressHouse$Book", "<init>", "()V"⟩
abbrev b_Item_init : ByteArray := prog_7_method_1_code
def y_Item_init : MethodName := ⟨"AddressHouse$Item", "<init>", "()V"⟩
abbrev b_House_init : ByteArray := prog_6_method_1_code
def y_House_init : MethodName := ⟨"AddressHouse$House", "<init>", "()V"⟩
abbrev b_House_addUser : ByteArray := prog_6_method_2_code
def y_House_addUser : MethodName := ⟨"AddressHouse$House", "addUser", "(LAddressHouse$Row;)I"⟩
abbrev b_House_bookCount : ByteArray := prog_6_method_14_code
def y_House_bookCount : MethodName := ⟨"AddressHouse$House", "bookCount", "()I"⟩
abbrev b_House_itemCount : ByteArray := prog_6_method_15_code
def y_House_itemCount : MethodName := ⟨"AddressHouse$House", "itemCount", "()I"⟩
abbrev b_Card_init : ByteArray := prog_3_method_1_code
def y_Card_init : MethodName := ⟨"AddressHouse$Card", "<init>", "()V"⟩
abbrev b_Card_read : ByteArray := prog_3_method_2_code
def y_Card_read : MethodName := ⟨"AddressHouse$Card", "read", "(LAddressHouse$Row;)Z"⟩
abbrev b_Card_unfold : ByteArray := prog_3_method_3_code
def y_Card_unfold : MethodName := ⟨"AddressHouse$Card", "unfold", "(LAddressHouse$Row;)V"⟩
abbrev b_Card_isClean : ByteArray := prog_3_method_4_code
def y_Card_isClean : MethodName := ⟨"AddressHouse$Card", "isClean", "()Z"⟩
abbrev b_Xml_init : ByteArray := prog_12_method_1_code
def y_Xml_init : MethodName := ⟨"AddressHouse$Xml", "<init>", "()V"⟩
abbrev b_Scribe_init : ByteArray := prog_10_method_1_code
def y_Scribe_init : MethodName := ⟨"AddressHouse$Scribe", "<init>", "(LAddressHouse$Card;LAddressHouse$Xml;)V"⟩
abbrev b_Filter_init : ByteArray := prog_5_method_1_code
def y_Filter_init : MethodName := ⟨"AddressHouse$Filter", "<init>", "(LAddressHouse$Xml;LAddressHouse$Card;)V"⟩
abbrev b_Listing_init : ByteArray := prog_8_method_1_code
def y_Listing_init : MethodName := ⟨"AddressHouse$Listing", "<init>", "(LAddressHouse$House;LAddressHouse$Xml;LAddressHouse$Row;)V"⟩
abbrev b_Clerk_init : ByteArray := prog_4_method_1_code
def y_Clerk_init : MethodName := ⟨"AddressHouse$Clerk", "<init>", "(LAddressHouse$House;LAddressHouse$Listing;LAddressHouse$Card;LAddressHouse$Xml;)V"⟩
abbrev b_Top_init : ByteArray := prog_1_method_1_code
def y_Top_init : MethodName := ⟨"AddressHouse", "<init>", "()V"⟩
abbrev b_Top_feed : ByteArray := prog_1_method_2_code
def y_Top_feed : MethodName := ⟨"AddressHouse", "feed", "(IIIII)Z"⟩
abbrev b_Top_end : ByteArray := prog_1_method_3_code
def y_Top_end : MethodName := ⟨"AddressHouse", "end", "(I)Z"⟩
abbrev b_Top_user : ByteArray := prog_1_method_4_code
def y_Top_user : MethodName := ⟨"AddressHouse", "user", "()I"⟩
abbrev b_Top_open : ByteArray := prog_1_method_5_code
def y_Top_open : MethodName := ⟨"AddressHouse", "open", "()I"⟩
abbrev b_Top_isOpen : ByteArray := prog_1_method_7_code
def y_Top_isOpen : MethodName := ⟨"AddressHouse", "isOpen", "(I)Z"⟩
abbrev b_Top_shut : ByteArray := prog_1_method_8_code
def y_Top_shut : MethodName := ⟨"AddressHouse", "shut", "(I)Z"⟩
abbrev b_Top_out : ByteArray := prog_1_method_9_code
def y_Top_out : MethodName := ⟨"AddressHouse", "out", "()I"⟩
abbrev b_Top_count : ByteArray := prog_1_method_12_code
def y_Top_count : MethodName := ⟨"AddressHouse", "count", "(I)I"⟩
def xw0_0 : List Cond := [Jvm.Cond.initialized "AddressHouse", Jvm.Cond.initialized "AddressHouse$Row", Jvm.Cond.initialized "AddressHouse$Wire", Jvm.Cond.initialized "AddressHouse$House", Jvm.Cond.initialized "AddressHouse$Book", Jvm.Cond.initialized "AddressHouse$Item", Jvm.Cond.initialized "AddressHouse$Card", Jvm.Cond.initialized "AddressHouse$Xml", Jvm.Cond.initialized "AddressHouse$Scribe", Jvm.Cond.initialized "AddressHouse$Listing", Jvm.Cond.initialized "AddressHouse$Clerk", Jvm.Cond.initialized "AddressHouse$Filter", Jvm.Cond.instantiable "AddressHouse" (9 : Nat), Jvm.Cond.instanceMethod ({ cls := "AddressHouse", name := "<init>", desc := "()V" } : Jvm.MethodName), Jvm.Cond.code ({ cls := "AddressHouse", name := "<init>", desc := "()V" } : Jvm.MethodName) prog_1_method_1_code (2 : Nat) (Option.none : Option Jvm.ClassFile.FieldType), Jvm.Cond.methodLink "AddressHouse" (1 : Nat) ({ cls := "java/lang/Object", name := "<init>", desc := "()V" } : Jvm.MethodName), Jvm.Cond.instanceMethod ({ cls := "java/lang/Object", name := "<init>", desc := "()V" } : Jvm.MethodName), Jvm.Cond.code ({ cls := "java/lang/Object", name := "<init>", desc := "()V" } : Jvm.MethodName) object_method_1_code (1 : Nat) (Option.none : Option Jvm.ClassFile.FieldType), Jvm.Cond.classLink "AddressHouse" (7 : Nat) "AddressHouse$Row", Jvm.Cond.instantiable "AddressHouse$Row" (3 : Nat), Jvm.Cond.methodLink "AddressHouse" (11 : Nat) ({ cls := "AddressHouse$Row", name := "<init>", desc := "(I)V" } : Jvm.MethodName), Jvm.Cond.instanceMethod ({ cls := "AddressHouse$Row", name := "<init>", desc := "(I)V" } : Jvm.MethodName), Jvm.Cond.code ({ cls := "AddressHouse$Row", name := "<init>", desc := "(I)V" } : Jvm.MethodName) prog_9_method_1_code (2 : Nat) (Option.none : Option Jvm.ClassFile.FieldType), Jvm.Cond.methodLink "AddressHouse$Row" (3 : Nat) ({ cls := "java/lang/Object", name := "<init>", desc := "()V" } : Jvm.MethodName), Jvm.Cond.fieldLink "AddressHouse$Row" (9 : Nat) "AddressHouse$Row" "cells" "[B", Jvm.Cond.fieldLink "AddressHouse$Row" (15 : Nat) "AddressHouse$Row" "size" "I", Jvm.Cond.fieldLink "AddressHouse" (78 : Nat) "AddressHouse$Row" "size" "I", Jvm.Cond.fieldLink "AddressHouse$House" (58 : Nat) "AddressHouse$Row" "size" "I", Jvm.Cond.fieldLink "AddressHouse$Card" (59 : Nat) "AddressHouse$Row" "size" "I", Jvm.Cond.fieldLink "AddressHouse$Row" (19 : Nat) "AddressHouse$Row" "over" "Z", Jvm.Cond.laysFinal "AddressHouse$Row" "AddressHouse$Row" "cells" "[B", Jvm.Cond.lays "AddressHouse$Row" "AddressHouse$Row" "size" "I", Jvm.Cond.lays "AddressHouse$Row" "AddressHouse$Row" "over" "Z", Jvm.Cond.superclass "AddressHouse$Row" "java/lang/Object", Jvm.Cond.arrayClass Jvm.ClassFile.FieldType.byte, Jvm.Cond.constant "AddressHouse" (18 : Nat) (65536 : Int32), Jvm.Cond.classLink "AddressHouse" (22 : Nat) "AddressHouse$Wire", Jvm.Cond.instantiable "AddressHouse$Wire" (11 : Nat), Jvm.Cond.methodLink "AddressHouse" (28 : Nat) ({ cls := "AddressHouse$Wire", name := "<init>", desc := "()V" } : Jvm.MethodName), Jvm.Cond.instanceMethod ({ cls := "AddressHouse$Wire", name := "<init>", desc := "()V" } : Jvm.MethodName), Jvm.Cond.code ({ cls := "AddressHouse$Wire", name := "<init>", desc := "()V" } : Jvm.MethodName) prog_11_method_1_code (1 : Nat) (Option.none : Option Jvm.ClassFile.FieldType), Jvm.Cond.methodLink "AddressHouse$Wire" (3 : Nat) ({ cls := "java/lang/Object", name := "<init>", desc := "()V" } : Jvm.MethodName), Jvm.Cond.classLink "AddressHouse$Wire" (9 : Nat) "AddressHouse$Row", Jvm.Cond.methodLink "AddressHouse$Wire" (13 : Nat) ({ cls := "AddressHouse$Row", name := "<init>", desc := "(I)V" } : Jvm.MethodName), Jvm.Cond.fieldLink "AddressHouse$Wire" (16 : Nat) "AddressHouse$Wire" "head" "LAddressHouse$Row;", Jvm.Cond.fieldLink "AddressHouse$Wire" (20 : Nat) "AddressHouse$Wire" "load" "LAddressHouse$Row;", Jvm.Cond.fieldLink "AddressHouse$Wire" (23 : Nat) "AddressHouse$Wire" "from" "[I", Jvm.Cond.fieldLink "AddressHouse$Wire" (27 : Nat) "AddressHouse$Wire" "to" "[I", Jvm.Cond.fieldLink "AddressHouse" (95 : Nat) "AddressHouse$Wire" "alive" "Z", Jvm.Cond.fieldLink "AddressHouse$Wire" (33 : Nat) "AddressHouse$Wire" "state" "I"]
def xw0_1 : List Cond := [Jvm.Cond.laysFinal "AddressHouse$Wire" "AddressHouse$Wire" "head" "LAddressHouse$Row;", Jvm.Cond.laysFinal "AddressHouse$Wire" "AddressHouse$Wire" "load" "LAddressHouse$Row;", Jvm.Cond.laysFinal "AddressHouse$Wire" "AddressHouse$Wire" "from" "[I", Jvm.Cond.laysFinal "AddressHouse$Wire" "AddressHouse$Wire" "to" "[I", Jvm.Cond.lays "AddressHouse$Wire" "AddressHouse$Wire" "alive" "Z", Jvm.Cond.lays "AddressHouse$Wire" "AddressHouse$Wire" "methodTo" "I", Jvm.Cond.lays "AddressHouse$Wire" "AddressHouse$Wire" "targetTo" "I", Jvm.Cond.lays "AddressHouse$Wire" "AddressHouse$Wire" "state" "I", Jvm.Cond.lays "AddressHouse$Wire" "AddressHouse$Wire" "need" "I", Jvm.Cond.lays "AddressHouse$Wire" "AddressHouse$Wire" "digits" "I", Jvm.Cond.lays "AddressHouse$Wire" "AddressHouse$Wire" "twice" "Z", Jvm.Cond.superclass "AddressHouse$Wire" "java/lang/Object", Jvm.Cond.arrayClass Jvm.ClassFile.FieldType.int, Jvm.Cond.classLink "AddressHouse" (29 : Nat) "AddressHouse$House", Jvm.Cond.instantiable "AddressHouse$House" (17 : Nat), Jvm.Cond.methodLink "AddressHouse" (31 : Nat) ({ cls := "AddressHouse$House", name := "<init>", desc := "()V" } : Jvm.MethodName), Jvm.Cond.instanceMethod ({ cls := "AddressHouse$House", name := "<init>", desc := "()V" } : Jvm.MethodName), Jvm.Cond.code ({ cls := "AddressHouse$House", name := "<init>", desc := "()V" } : Jvm.MethodName) prog_6_method_1_code (2 : Nat) (Option.none : Option Jvm.ClassFile.FieldType), Jvm.Cond.methodLink "AddressHouse$House" (3 : Nat) ({ cls := "java/lang/Object", name := "<init>", desc := "()V" } : Jvm.MethodName), Jvm.Cond.classLink "AddressHouse$House" (11 : Nat) "AddressHouse$Row", Jvm.Cond.methodLink "AddressHouse$House" (21 : Nat) ({ cls := "AddressHouse$Row", name := "<init>", desc := "(I)V" } : Jvm.MethodName), Jvm.Cond.classLink "AddressHouse$House" (24 : Nat) "AddressHouse$Book", Jvm.Cond.instantiable "AddressHouse$Book" (13 : Nat), Jvm.Cond.methodLink "AddressHouse$House" (30 : Nat) ({ cls := "AddressHouse$Book", name := "<init>", desc := "()V" } : Jvm.MethodName), Jvm.Cond.instanceMethod ({ cls := "AddressHouse$Book", name := "<init>", desc := "()V" } : Jvm.MethodName), Jvm.Cond.code ({ cls := "AddressHouse$Book", name := "<init>", desc := "()V" } : Jvm.MethodName) prog_2_method_1_code (2 : Nat) (Option.none : Option Jvm.ClassFile.FieldType), Jvm.Cond.methodLink "AddressHouse$Book" (3 : Nat) ({ cls := "java/lang/Object", name := "<init>", desc := "()V" } : Jvm.MethodName), Jvm.Cond.classLink "AddressHouse$Book" (15 : Nat) "AddressHouse$Row", Jvm.Cond.methodLink "AddressHouse$Book" (17 : Nat) ({ cls := "AddressHouse$Row", name := "<init>", desc := "(I)V" } : Jvm.MethodName), Jvm.Cond.fieldLink "AddressHouse$Book" (9 : Nat) "AddressHouse$Book" "owner" "I", Jvm.Cond.fieldLink "AddressHouse$House" (162 : Nat) "AddressHouse$Book" "owner" "I", Jvm.Cond.fieldLink "AddressHouse$Book" (20 : Nat) "AddressHouse$Book" "name" "LAddressHouse$Row;", Jvm.Cond.fieldLink "AddressHouse$Book" (24 : Nat) "AddressHouse$Book" "title" "LAddressHouse$Row;", Jvm.Cond.fieldLink "AddressHouse$Book" (27 : Nat) "AddressHouse$Book" "note" "LAddressHouse$Row;", Jvm.Cond.fieldLink "AddressHouse$Book" (32 : Nat) "AddressHouse$Book" "readers" "[I", Jvm.Cond.fieldLink "AddressHouse$Book" (36 : Nat) "AddressHouse$Book" "goneNames" "[LAddressHouse$Row;", Jvm.Cond.fieldLink "AddressHouse$Book" (40 : Nat) "AddressHouse$Book" "goneChanges" "[I", Jvm.Cond.lays "AddressHouse$Book" "AddressHouse$Book" "owner" "I", Jvm.Cond.lays "AddressHouse$Book" "AddressHouse$Book" "made" "I", Jvm.Cond.laysFinal "AddressHouse$Book" "AddressHouse$Book" "name" "LAddressHouse$Row;", Jvm.Cond.laysFinal "AddressHouse$Book" "AddressHouse$Book" "title" "LAddressHouse$Row;", Jvm.Cond.lays "AddressHouse$Book" "AddressHouse$Book" "hasTitle" "Z", Jvm.Cond.laysFinal "AddressHouse$Book" "AddressHouse$Book" "note" "LAddressHouse$Row;", Jvm.Cond.lays "AddressHouse$Book" "AddressHouse$Book" "hasNote" "Z", Jvm.Cond.laysFinal "AddressHouse$Book" "AddressHouse$Book" "readers" "[I", Jvm.Cond.lays "AddressHouse$Book" "AddressHouse$Book" "readerCount" "I", Jvm.Cond.laysFinal "AddressHouse$Book" "AddressHouse$Book" "goneNames" "[LAddressHouse$Row;", Jvm.Cond.laysFinal "AddressHouse$Book" "AddressHouse$Book" "goneChanges" "[I", Jvm.Cond.lays "AddressHouse$Book" "AddressHouse$Book" "goneCount" "I", Jvm.Cond.lays "AddressHouse$Book" "AddressHouse$Book" "forgotten" "I"]
def xw0_2 : List Cond := [Jvm.Cond.superclass "AddressHouse$Book" "java/lang/Object", Jvm.Cond.classLink "AddressHouse$House" (31 : Nat) "AddressHouse$Item", Jvm.Cond.instantiable "AddressHouse$Item" (5 : Nat), Jvm.Cond.methodLink "AddressHouse$House" (37 : Nat) ({ cls := "AddressHouse$Item", name := "<init>", desc := "()V" } : Jvm.MethodName), Jvm.Cond.instanceMethod ({ cls := "AddressHouse$Item", name := "<init>", desc := "()V" } : Jvm.MethodName), Jvm.Cond.code ({ cls := "AddressHouse$Item", name := "<init>", desc := "()V" } : Jvm.MethodName) prog_7_method_1_code (1 : Nat) (Option.none : Option Jvm.ClassFile.FieldType), Jvm.Cond.methodLink "AddressHouse$Item" (3 : Nat) ({ cls := "java/lang/Object", name := "<init>", desc := "()V" } : Jvm.MethodName), Jvm.Cond.classLink "AddressHouse$Item" (15 : Nat) "AddressHouse$Row", Jvm.Cond.methodLink "AddressHouse$Item" (17 : Nat) ({ cls := "AddressHouse$Row", name := "<init>", desc := "(I)V" } : Jvm.MethodName), Jvm.Cond.fieldLink "AddressHouse$Item" (9 : Nat) "AddressHouse$Item" "book" "I", Jvm.Cond.fieldLink "AddressHouse$House" (166 : Nat) "AddressHouse$Item" "book" "I", Jvm.Cond.fieldLink "AddressHouse$Item" (20 : Nat) "AddressHouse$Item" "name" "LAddressHouse$Row;", Jvm.Cond.fieldLink "AddressHouse$Item" (26 : Nat) "AddressHouse$Item" "text" "LAddressHouse$Row;", Jvm.Cond.fieldLink "AddressHouse$Item" (29 : Nat) "AddressHouse$Item" "uid" "LAddressHouse$Row;", Jvm.Cond.lays "AddressHouse$Item" "AddressHouse$Item" "book" "I", Jvm.Cond.lays "AddressHouse$Item" "AddressHouse$Item" "change" "I", Jvm.Cond.laysFinal "AddressHouse$Item" "AddressHouse$Item" "name" "LAddressHouse$Row;", Jvm.Cond.laysFinal "AddressHouse$Item" "AddressHouse$Item" "text" "LAddressHouse$Row;", Jvm.Cond.laysFinal "AddressHouse$Item" "AddressHouse$Item" "uid" "LAddressHouse$Row;", Jvm.Cond.superclass "AddressHouse$Item" "java/lang/Object", Jvm.Cond.fieldLink "AddressHouse$House" (13 : Nat) "AddressHouse$House" "users" "[LAddressHouse$Row;", Jvm.Cond.fieldLink "AddressHouse$House" (17 : Nat) "AddressHouse$House" "nameTo" "[I", Jvm.Cond.fieldLink "AddressHouse$House" (66 : Nat) "AddressHouse$House" "userCount" "I", Jvm.Cond.fieldLink "AddressHouse$House" (26 : Nat) "AddressHouse$House" "books" "[LAddressHouse$Book;", Jvm.Cond.fieldLink "AddressHouse$House" (33 : Nat) "AddressHouse$House" "items" "[LAddressHouse$Item;", Jvm.Cond.fieldLink "AddressHouse" (202 : Nat) "AddressHouse$House" "changes" "I", Jvm.Cond.fieldLink "AddressHouse$House" (38 : Nat) "AddressHouse$House" "order" "[I", Jvm.Cond.fieldLink "AddressHouse$House" (41 : Nat) "AddressHouse$House" "secret" "LAddressHouse$Row;", Jvm.Cond.fieldLink "AddressHouse$House" (45 : Nat) "AddressHouse$House" "noBook" "LAddressHouse$Book;", Jvm.Cond.fieldLink "AddressHouse$House" (49 : Nat) "AddressHouse$House" "noItem" "LAddressHouse$Item;", Jvm.Cond.fieldLink "AddressHouse$House" (55 : Nat) "AddressHouse$House" "path" "LAddressHouse$Row;", Jvm.Cond.laysFinal "AddressHouse$House" "AddressHouse$House" "users" "[LAddressHouse$Row;", Jvm.Cond.laysFinal "AddressHouse$House" "AddressHouse$House" "nameTo" "[I", Jvm.Cond.lays "AddressHouse$House" "AddressHouse$House" "userCount" "I", Jvm.Cond.laysFinal "AddressHouse$House" "AddressHouse$House" "books" "[LAddressHouse$Book;", Jvm.Cond.laysFinal "AddressHouse$House" "AddressHouse$House" "items" "[LAddressHouse$Item;", Jvm.Cond.lays "AddressHouse$House" "AddressHouse$House" "changes" "I", Jvm.Cond.laysFinal "AddressHouse$House" "AddressHouse$House" "order" "[I", Jvm.Cond.laysFinal "AddressHouse$House" "AddressHouse$House" "secret" "LAddressHouse$Row;", Jvm.Cond.laysFinal "AddressHouse$House" "AddressHouse$House" "noBook" "LAddressHouse$Book;", Jvm.Cond.laysFinal "AddressHouse$House" "AddressHouse$House" "noItem" "LAddressHouse$Item;", Jvm.Cond.laysFinal "AddressHouse$House" "AddressHouse$House" "path" "LAddressHouse$Row;", Jvm.Cond.lays "AddressHouse$House" "AddressHouse$House" "kind" "I", Jvm.Cond.lays "AddressHouse$House" "AddressHouse$House" "owner" "I", Jvm.Cond.lays "AddressHouse$House" "AddressHouse$House" "book" "I", Jvm.Cond.lays "AddressHouse$House" "AddressHouse$House" "item" "I", Jvm.Cond.lays "AddressHouse$House" "AddressHouse$House" "lastFrom" "I", Jvm.Cond.lays "AddressHouse$House" "AddressHouse$House" "lastTo" "I", Jvm.Cond.superclass "AddressHouse$House" "java/lang/Object", Jvm.Cond.classLink "AddressHouse" (36 : Nat) "AddressHouse$Card"]
def xw0_3 : List Cond := [Jvm.Cond.instantiable "AddressHouse$Card" (10 : Nat), Jvm.Cond.methodLink "AddressHouse" (38 : Nat) ({ cls := "AddressHouse$Card", name := "<init>", desc := "()V" } : Jvm.MethodName), Jvm.Cond.instanceMethod ({ cls := "AddressHouse$Card", name := "<init>", desc := "()V" } : Jvm.MethodName), Jvm.Cond.code ({ cls := "AddressHouse$Card", name := "<init>", desc := "()V" } : Jvm.MethodName) prog_3_method_1_code (1 : Nat) (Option.none : Option Jvm.ClassFile.FieldType), Jvm.Cond.methodLink "AddressHouse$Card" (3 : Nat) ({ cls := "java/lang/Object", name := "<init>", desc := "()V" } : Jvm.MethodName), Jvm.Cond.classLink "AddressHouse$Card" (9 : Nat) "AddressHouse$Row", Jvm.Cond.methodLink "AddressHouse$Card" (11 : Nat) ({ cls := "AddressHouse$Row", name := "<init>", desc := "(I)V" } : Jvm.MethodName), Jvm.Cond.classLink "AddressHouse$Card" (20 : Nat) "[[I", Jvm.Cond.fieldLink "AddressHouse$Card" (14 : Nat) "AddressHouse$Card" "text" "LAddressHouse$Row;", Jvm.Cond.fieldLink "AddressHouse$Card" (42 : Nat) "AddressHouse$Card" "version" "I", Jvm.Cond.fieldLink "AddressHouse$Card" (22 : Nat) "AddressHouse$Card" "properties" "[[I", Jvm.Cond.fieldLink "AddressHouse$Card" (46 : Nat) "AddressHouse$Card" "size" "I", Jvm.Cond.fieldLink "AddressHouse$Card" (25 : Nat) "AddressHouse$Card" "parameters" "[[I", Jvm.Cond.fieldLink "AddressHouse$Card" (49 : Nat) "AddressHouse$Card" "parameterCount" "I", Jvm.Cond.fieldLink "AddressHouse$Card" (28 : Nat) "AddressHouse$Card" "valueFrom" "[I", Jvm.Cond.fieldLink "AddressHouse$Card" (32 : Nat) "AddressHouse$Card" "valueTo" "[I", Jvm.Cond.fieldLink "AddressHouse$Card" (52 : Nat) "AddressHouse$Card" "valueCount" "I", Jvm.Cond.fieldLink "AddressHouse$Card" (35 : Nat) "AddressHouse$Card" "tally" "[I", Jvm.Cond.laysFinal "AddressHouse$Card" "AddressHouse$Card" "text" "LAddressHouse$Row;", Jvm.Cond.lays "AddressHouse$Card" "AddressHouse$Card" "version" "I", Jvm.Cond.laysFinal "AddressHouse$Card" "AddressHouse$Card" "properties" "[[I", Jvm.Cond.lays "AddressHouse$Card" "AddressHouse$Card" "size" "I", Jvm.Cond.laysFinal "AddressHouse$Card" "AddressHouse$Card" "parameters" "[[I", Jvm.Cond.lays "AddressHouse$Card" "AddressHouse$Card" "parameterCount" "I", Jvm.Cond.laysFinal "AddressHouse$Card" "AddressHouse$Card" "valueFrom" "[I", Jvm.Cond.laysFinal "AddressHouse$Card" "AddressHouse$Card" "valueTo" "[I", Jvm.Cond.lays "AddressHouse$Card" "AddressHouse$Card" "valueCount" "I", Jvm.Cond.laysFinal "AddressHouse$Card" "AddressHouse$Card" "tally" "[I", Jvm.Cond.superclass "AddressHouse$Card" "java/lang/Object", Jvm.Cond.classLink "AddressHouse" (43 : Nat) "AddressHouse$Xml", Jvm.Cond.instantiable "AddressHouse$Xml" (17 : Nat), Jvm.Cond.methodLink "AddressHouse" (45 : Nat) ({ cls := "AddressHouse$Xml", name := "<init>", desc := "()V" } : Jvm.MethodName), Jvm.Cond.instanceMethod ({ cls := "AddressHouse$Xml", name := "<init>", desc := "()V" } : Jvm.MethodName), Jvm.Cond.code ({ cls := "AddressHouse$Xml", name := "<init>", desc := "()V" } : Jvm.MethodName) prog_12_method_1_code (1 : Nat) (Option.none : Option Jvm.ClassFile.FieldType), Jvm.Cond.methodLink "AddressHouse$Xml" (3 : Nat) ({ cls := "java/lang/Object", name := "<init>", desc := "()V" } : Jvm.MethodName), Jvm.Cond.classLink "AddressHouse$Xml" (11 : Nat) "[[I", Jvm.Cond.classLink "AddressHouse$Xml" (21 : Nat) "AddressHouse$Row", Jvm.Cond.methodLink "AddressHouse$Xml" (23 : Nat) ({ cls := "AddressHouse$Row", name := "<init>", desc := "(I)V" } : Jvm.MethodName), Jvm.Cond.fieldLink "AddressHouse$Xml" (13 : Nat) "AddressHouse$Xml" "elements" "[[I", Jvm.Cond.fieldLink "AddressHouse$Xml" (18 : Nat) "AddressHouse$Xml" "attributes" "[[I", Jvm.Cond.fieldLink "AddressHouse$Xml" (26 : Nat) "AddressHouse$Xml" "values" "LAddressHouse$Row;", Jvm.Cond.fieldLink "AddressHouse$Xml" (30 : Nat) "AddressHouse$Xml" "spaces" "[[I", Jvm.Cond.fieldLink "AddressHouse$Xml" (33 : Nat) "AddressHouse$Xml" "bindings" "[[I", Jvm.Cond.fieldLink "AddressHouse$Xml" (36 : Nat) "AddressHouse$Xml" "marks" "[I", Jvm.Cond.fieldLink "AddressHouse$Xml" (40 : Nat) "AddressHouse$Xml" "stack" "[I", Jvm.Cond.fieldLink "AddressHouse$Xml" (43 : Nat) "AddressHouse$Xml" "loose" "LAddressHouse$Row;", Jvm.Cond.fieldLink "AddressHouse$Xml" (46 : Nat) "AddressHouse$Xml" "owners" "[I", Jvm.Cond.fieldLink "AddressHouse$Xml" (49 : Nat) "AddressHouse$Xml" "texts" "LAddressHouse$Row;", Jvm.Cond.fieldLink "AddressHouse$Xml" (52 : Nat) "AddressHouse$Xml" "source" "LAddressHouse$Row;", Jvm.Cond.laysFinal "AddressHouse$Xml" "AddressHouse$Xml" "elements" "[[I"]
def xw0_4 : List Cond := [Jvm.Cond.lays "AddressHouse$Xml" "AddressHouse$Xml" "size" "I", Jvm.Cond.laysFinal "AddressHouse$Xml" "AddressHouse$Xml" "attributes" "[[I", Jvm.Cond.lays "AddressHouse$Xml" "AddressHouse$Xml" "attributeCount" "I", Jvm.Cond.laysFinal "AddressHouse$Xml" "AddressHouse$Xml" "values" "LAddressHouse$Row;", Jvm.Cond.laysFinal "AddressHouse$Xml" "AddressHouse$Xml" "spaces" "[[I", Jvm.Cond.lays "AddressHouse$Xml" "AddressHouse$Xml" "spaceCount" "I", Jvm.Cond.laysFinal "AddressHouse$Xml" "AddressHouse$Xml" "bindings" "[[I", Jvm.Cond.lays "AddressHouse$Xml" "AddressHouse$Xml" "bindingCount" "I", Jvm.Cond.laysFinal "AddressHouse$Xml" "AddressHouse$Xml" "marks" "[I", Jvm.Cond.laysFinal "AddressHouse$Xml" "AddressHouse$Xml" "stack" "[I", Jvm.Cond.lays "AddressHouse$Xml" "AddressHouse$Xml" "depth" "I", Jvm.Cond.laysFinal "AddressHouse$Xml" "AddressHouse$Xml" "loose" "LAddressHouse$Row;", Jvm.Cond.laysFinal "AddressHouse$Xml" "AddressHouse$Xml" "owners" "[I", Jvm.Cond.laysFinal "AddressHouse$Xml" "AddressHouse$Xml" "texts" "LAddressHouse$Row;", Jvm.Cond.lays "AddressHouse$Xml" "AddressHouse$Xml" "source" "LAddressHouse$Row;", Jvm.Cond.lays "AddressHouse$Xml" "AddressHouse$Xml" "pos" "I", Jvm.Cond.superclass "AddressHouse$Xml" "java/lang/Object", Jvm.Cond.classLink "AddressHouse" (50 : Nat) "AddressHouse$Scribe", Jvm.Cond.instantiable "AddressHouse$Scribe" (9 : Nat), Jvm.Cond.methodLink "AddressHouse" (52 : Nat) ({ cls := "AddressHouse$Scribe", name := "<init>", desc := "(LAddressHouse$Card;LAddressHouse$Xml;)V" } : Jvm.MethodName), Jvm.Cond.instanceMethod ({ cls := "AddressHouse$Scribe", name := "<init>", desc := "(LAddressHouse$Card;LAddressHouse$Xml;)V" } : Jvm.MethodName), Jvm.Cond.code ({ cls := "AddressHouse$Scribe", name := "<init>", desc := "(LAddressHouse$Card;LAddressHouse$Xml;)V" } : Jvm.MethodName) prog_10_method_1_code (3 : Nat) (Option.none : Option Jvm.ClassFile.FieldType), Jvm.Cond.methodLink "AddressHouse$Scribe" (3 : Nat) ({ cls := "java/lang/Object", name := "<init>", desc := "()V" } : Jvm.MethodName), Jvm.Cond.classLink "AddressHouse$Scribe" (19 : Nat) "AddressHouse$Row", Jvm.Cond.methodLink "AddressHouse$Scribe" (21 : Nat) ({ cls := "AddressHouse$Row", name := "<init>", desc := "(I)V" } : Jvm.MethodName), Jvm.Cond.fieldLink "AddressHouse$Scribe" (9 : Nat) "AddressHouse$Scribe" "card" "LAddressHouse$Card;", Jvm.Cond.fieldLink "AddressHouse$Scribe" (15 : Nat) "AddressHouse$Scribe" "xml" "LAddressHouse$Xml;", Jvm.Cond.fieldLink "AddressHouse$Scribe" (24 : Nat) "AddressHouse$Scribe" "line" "LAddressHouse$Row;", Jvm.Cond.fieldLink "AddressHouse$Scribe" (28 : Nat) "AddressHouse$Scribe" "part" "LAddressHouse$Row;", Jvm.Cond.fieldLink "AddressHouse$Scribe" (31 : Nat) "AddressHouse$Scribe" "picker" "I", Jvm.Cond.laysFinal "AddressHouse$Scribe" "AddressHouse$Scribe" "card" "LAddressHouse$Card;", Jvm.Cond.laysFinal "AddressHouse$Scribe" "AddressHouse$Scribe" "xml" "LAddressHouse$Xml;", Jvm.Cond.laysFinal "AddressHouse$Scribe" "AddressHouse$Scribe" "line" "LAddressHouse$Row;", Jvm.Cond.laysFinal "AddressHouse$Scribe" "AddressHouse$Scribe" "part" "LAddressHouse$Row;", Jvm.Cond.lays "AddressHouse$Scribe" "AddressHouse$Scribe" "page" "LAddressHouse$Row;", Jvm.Cond.lays "AddressHouse$Scribe" "AddressHouse$Scribe" "picker" "I", Jvm.Cond.lays "AddressHouse$Scribe" "AddressHouse$Scribe" "choosy" "Z", Jvm.Cond.lays "AddressHouse$Scribe" "AddressHouse$Scribe" "nameEnd" "I", Jvm.Cond.lays "AddressHouse$Scribe" "AddressHouse$Scribe" "valueStart" "I", Jvm.Cond.superclass "AddressHouse$Scribe" "java/lang/Object", Jvm.Cond.classLink "AddressHouse" (59 : Nat) "AddressHouse$Listing", Jvm.Cond.instantiable "AddressHouse$Listing" (16 : Nat), Jvm.Cond.constant "AddressHouse" (61 : Nat) (60100 : Int32), Jvm.Cond.methodLink "AddressHouse" (62 : Nat) ({ cls := "AddressHouse$Listing", name := "<init>", desc := "(LAddressHouse$House;LAddressHouse$Xml;LAddressHouse$Row;)V" } : Jvm.MethodName), Jvm.Cond.instanceMethod ({ cls := "AddressHouse$Listing", name := "<init>", desc := "(LAddressHouse$House;LAddressHouse$Xml;LAddressHouse$Row;)V" } : Jvm.MethodName), Jvm.Cond.code ({ cls := "AddressHouse$Listing", name := "<init>", desc := "(LAddressHouse$House;LAddressHouse$Xml;LAddressHouse$Row;)V" } : Jvm.MethodName) prog_8_method_1_code (4 : Nat) (Option.none : Option Jvm.ClassFile.FieldType), Jvm.Cond.methodLink "AddressHouse$Listing" (3 : Nat) ({ cls := "java/lang/Object", name := "<init>", desc := "()V" } : Jvm.MethodName), Jvm.Cond.classLink "AddressHouse$Listing" (23 : Nat) "AddressHouse$Row", Jvm.Cond.methodLink "AddressHouse$Listing" (27 : Nat) ({ cls := "AddressHouse$Row", name := "<init>", desc := "(I)V" } : Jvm.MethodName), Jvm.Cond.fieldLink "AddressHouse$Listing" (19 : Nat) "AddressHouse$Listing" "body" "LAddressHouse$Row;"]
def xw0_5 : List Cond := [Jvm.Cond.fieldLink "AddressHouse$Listing" (30 : Nat) "AddressHouse$Listing" "data" "LAddressHouse$Row;", Jvm.Cond.fieldLink "AddressHouse$Listing" (33 : Nat) "AddressHouse$Listing" "asked" "[I", Jvm.Cond.fieldLink "AddressHouse$Listing" (37 : Nat) "AddressHouse$Listing" "codes" "[I", Jvm.Cond.fieldLink "AddressHouse$Listing" (40 : Nat) "AddressHouse$Listing" "kinds" "[I", Jvm.Cond.fieldLink "AddressHouse$Listing" (43 : Nat) "AddressHouse$Listing" "indexes" "[I", Jvm.Cond.fieldLink "AddressHouse$Listing" (46 : Nat) "AddressHouse$Listing" "statuses" "[I", Jvm.Cond.fieldLink "AddressHouse$Listing" (9 : Nat) "AddressHouse$Listing" "house" "LAddressHouse$House;", Jvm.Cond.fieldLink "AddressHouse$Listing" (15 : Nat) "AddressHouse$Listing" "xml" "LAddressHouse$Xml;", Jvm.Cond.fieldLink "AddressHouse$Listing" (51 : Nat) "AddressHouse$Listing" "name" "LAddressHouse$Row;", Jvm.Cond.laysFinal "AddressHouse$Listing" "AddressHouse$Listing" "body" "LAddressHouse$Row;", Jvm.Cond.laysFinal "AddressHouse$Listing" "AddressHouse$Listing" "data" "LAddressHouse$Row;", Jvm.Cond.lays "AddressHouse$Listing" "AddressHouse$Listing" "user" "I", Jvm.Cond.lays "AddressHouse$Listing" "AddressHouse$Listing" "book" "I", Jvm.Cond.lays "AddressHouse$Listing" "AddressHouse$Listing" "mode" "I", Jvm.Cond.laysFinal "AddressHouse$Listing" "AddressHouse$Listing" "asked" "[I", Jvm.Cond.laysFinal "AddressHouse$Listing" "AddressHouse$Listing" "codes" "[I", Jvm.Cond.lays "AddressHouse$Listing" "AddressHouse$Listing" "askedCount" "I", Jvm.Cond.lays "AddressHouse$Listing" "AddressHouse$Listing" "dataElement" "I", Jvm.Cond.laysFinal "AddressHouse$Listing" "AddressHouse$Listing" "kinds" "[I", Jvm.Cond.laysFinal "AddressHouse$Listing" "AddressHouse$Listing" "indexes" "[I", Jvm.Cond.laysFinal "AddressHouse$Listing" "AddressHouse$Listing" "statuses" "[I", Jvm.Cond.lays "AddressHouse$Listing" "AddressHouse$Listing" "entryCount" "I", Jvm.Cond.laysFinal "AddressHouse$Listing" "AddressHouse$Listing" "house" "LAddressHouse$House;", Jvm.Cond.laysFinal "AddressHouse$Listing" "AddressHouse$Listing" "xml" "LAddressHouse$Xml;", Jvm.Cond.laysFinal "AddressHouse$Listing" "AddressHouse$Listing" "name" "LAddressHouse$Row;", Jvm.Cond.superclass "AddressHouse$Listing" "java/lang/Object", Jvm.Cond.classLink "AddressHouse" (69 : Nat) "AddressHouse$Clerk", Jvm.Cond.instantiable "AddressHouse$Clerk" (18 : Nat), Jvm.Cond.methodLink "AddressHouse" (71 : Nat) ({ cls := "AddressHouse$Clerk", name := "<init>", desc := "(LAddressHouse$House;LAddressHouse$Listing;LAddressHouse$Card;LAddressHouse$Xml;)V" } : Jvm.MethodName), Jvm.Cond.instanceMethod ({ cls := "AddressHouse$Clerk", name := "<init>", desc := "(LAddressHouse$House;LAddressHouse$Listing;LAddressHouse$Card;LAddressHouse$Xml;)V" } : Jvm.MethodName), Jvm.Cond.code ({ cls := "AddressHouse$Clerk", name := "<init>", desc := "(LAddressHouse$House;LAddressHouse$Listing;LAddressHouse$Card;LAddressHouse$Xml;)V" } : Jvm.MethodName) prog_4_method_1_code (5 : Nat) (Option.none : Option Jvm.ClassFile.FieldType), Jvm.Cond.methodLink "AddressHouse$Clerk" (5 : Nat) ({ cls := "java/lang/Object", name := "<init>", desc := "()V" } : Jvm.MethodName), Jvm.Cond.classLink "AddressHouse$Clerk" (27 : Nat) "AddressHouse$Filter", Jvm.Cond.instantiable "AddressHouse$Filter" (9 : Nat), Jvm.Cond.methodLink "AddressHouse$Clerk" (29 : Nat) ({ cls := "AddressHouse$Filter", name := "<init>", desc := "(LAddressHouse$Xml;LAddressHouse$Card;)V" } : Jvm.MethodName), Jvm.Cond.instanceMethod ({ cls := "AddressHouse$Filter", name := "<init>", desc := "(LAddressHouse$Xml;LAddressHouse$Card;)V" } : Jvm.MethodName), Jvm.Cond.code ({ cls := "AddressHouse$Filter", name := "<init>", desc := "(LAddressHouse$Xml;LAddressHouse$Card;)V" } : Jvm.MethodName) prog_5_method_1_code (3 : Nat) (Option.none : Option Jvm.ClassFile.FieldType), Jvm.Cond.methodLink "AddressHouse$Filter" (3 : Nat) ({ cls := "java/lang/Object", name := "<init>", desc := "()V" } : Jvm.MethodName), Jvm.Cond.classLink "AddressHouse$Filter" (21 : Nat) "[[I", Jvm.Cond.classLink "AddressHouse$Filter" (29 : Nat) "AddressHouse$Row", Jvm.Cond.methodLink "AddressHouse$Filter" (33 : Nat) ({ cls := "AddressHouse$Row", name := "<init>", desc := "(I)V" } : Jvm.MethodName), Jvm.Cond.fieldLink "AddressHouse$Filter" (9 : Nat) "AddressHouse$Filter" "xml" "LAddressHouse$Xml;", Jvm.Cond.fieldLink "AddressHouse$Filter" (15 : Nat) "AddressHouse$Filter" "card" "LAddressHouse$Card;", Jvm.Cond.fieldLink "AddressHouse$Filter" (23 : Nat) "AddressHouse$Filter" "filters" "[[I", Jvm.Cond.fieldLink "AddressHouse$Filter" (26 : Nat) "AddressHouse$Filter" "tests" "[[I", Jvm.Cond.fieldLink "AddressHouse$Filter" (36 : Nat) "AddressHouse$Filter" "needles" "LAddressHouse$Row;", Jvm.Cond.fieldLink "AddressHouse$Filter" (40 : Nat) "AddressHouse$Filter" "value" "LAddressHouse$Row;", Jvm.Cond.laysFinal "AddressHouse$Filter" "AddressHouse$Filter" "xml" "LAddressHouse$Xml;", Jvm.Cond.laysFinal "AddressHouse$Filter" "AddressHouse$Filter" "card" "LAddressHouse$Card;", Jvm.Cond.laysFinal "AddressHouse$Filter" "AddressHouse$Filter" "filters" "[[I"]
def xw0_6 : List Cond := [Jvm.Cond.lays "AddressHouse$Filter" "AddressHouse$Filter" "filterCount" "I", Jvm.Cond.laysFinal "AddressHouse$Filter" "AddressHouse$Filter" "tests" "[[I", Jvm.Cond.lays "AddressHouse$Filter" "AddressHouse$Filter" "testCount" "I", Jvm.Cond.lays "AddressHouse$Filter" "AddressHouse$Filter" "all" "Z", Jvm.Cond.laysFinal "AddressHouse$Filter" "AddressHouse$Filter" "needles" "LAddressHouse$Row;", Jvm.Cond.laysFinal "AddressHouse$Filter" "AddressHouse$Filter" "value" "LAddressHouse$Row;", Jvm.Cond.superclass "AddressHouse$Filter" "java/lang/Object", Jvm.Cond.classLink "AddressHouse$Clerk" (36 : Nat) "AddressHouse$Row", Jvm.Cond.methodLink "AddressHouse$Clerk" (38 : Nat) ({ cls := "AddressHouse$Row", name := "<init>", desc := "(I)V" } : Jvm.MethodName), Jvm.Cond.fieldLink "AddressHouse$Clerk" (11 : Nat) "AddressHouse$Clerk" "house" "LAddressHouse$House;", Jvm.Cond.fieldLink "AddressHouse$Clerk" (15 : Nat) "AddressHouse$Clerk" "listing" "LAddressHouse$Listing;", Jvm.Cond.fieldLink "AddressHouse$Clerk" (19 : Nat) "AddressHouse$Clerk" "card" "LAddressHouse$Card;", Jvm.Cond.fieldLink "AddressHouse$Clerk" (23 : Nat) "AddressHouse$Clerk" "xml" "LAddressHouse$Xml;", Jvm.Cond.fieldLink "AddressHouse$Clerk" (32 : Nat) "AddressHouse$Clerk" "filter" "LAddressHouse$Filter;", Jvm.Cond.fieldLink "AddressHouse$Clerk" (41 : Nat) "AddressHouse$Clerk" "told" "LAddressHouse$Row;", Jvm.Cond.fieldLink "AddressHouse$Clerk" (47 : Nat) "AddressHouse$Clerk" "plain" "LAddressHouse$Row;", Jvm.Cond.lays "AddressHouse$Clerk" "AddressHouse$Clerk" "xmlRight" "Z", Jvm.Cond.lays "AddressHouse$Clerk" "AddressHouse$Clerk" "status" "I", Jvm.Cond.lays "AddressHouse$Clerk" "AddressHouse$Clerk" "page" "LAddressHouse$Row;", Jvm.Cond.lays "AddressHouse$Clerk" "AddressHouse$Clerk" "version" "I", Jvm.Cond.laysFinal "AddressHouse$Clerk" "AddressHouse$Clerk" "house" "LAddressHouse$House;", Jvm.Cond.laysFinal "AddressHouse$Clerk" "AddressHouse$Clerk" "listing" "LAddressHouse$Listing;", Jvm.Cond.laysFinal "AddressHouse$Clerk" "AddressHouse$Clerk" "card" "LAddressHouse$Card;", Jvm.Cond.laysFinal "AddressHouse$Clerk" "AddressHouse$Clerk" "xml" "LAddressHouse$Xml;", Jvm.Cond.laysFinal "AddressHouse$Clerk" "AddressHouse$Clerk" "filter" "LAddressHouse$Filter;", Jvm.Cond.laysFinal "AddressHouse$Clerk" "AddressHouse$Clerk" "told" "LAddressHouse$Row;", Jvm.Cond.laysFinal "AddressHouse$Clerk" "AddressHouse$Clerk" "plain" "LAddressHouse$Row;", Jvm.Cond.lays "AddressHouse$Clerk" "AddressHouse$Clerk" "wire" "LAddressHouse$Wire;", Jvm.Cond.lays "AddressHouse$Clerk" "AddressHouse$Clerk" "closing" "Z", Jvm.Cond.lays "AddressHouse$Clerk" "AddressHouse$Clerk" "type" "I", Jvm.Cond.lays "AddressHouse$Clerk" "AddressHouse$Clerk" "method" "I", Jvm.Cond.lays "AddressHouse$Clerk" "AddressHouse$Clerk" "user" "I", Jvm.Cond.lays "AddressHouse$Clerk" "AddressHouse$Clerk" "querying" "Z", Jvm.Cond.lays "AddressHouse$Clerk" "AddressHouse$Clerk" "tail" "I", Jvm.Cond.superclass "AddressHouse$Clerk" "java/lang/Object", Jvm.Cond.fieldLink "AddressHouse" (14 : Nat) "AddressHouse" "tape" "LAddressHouse$Row;", Jvm.Cond.fieldLink "AddressHouse" (19 : Nat) "AddressHouse" "answers" "LAddressHouse$Row;", Jvm.Cond.fieldLink "AddressHouse" (24 : Nat) "AddressHouse" "wires" "[LAddressHouse$Wire;", Jvm.Cond.fieldLink "AddressHouse" (32 : Nat) "AddressHouse" "house" "LAddressHouse$House;", Jvm.Cond.fieldLink "AddressHouse" (39 : Nat) "AddressHouse" "card" "LAddressHouse$Card;", Jvm.Cond.fieldLink "AddressHouse" (55 : Nat) "AddressHouse" "scribe" "LAddressHouse$Scribe;", Jvm.Cond.fieldLink "AddressHouse" (46 : Nat) "AddressHouse" "xml" "LAddressHouse$Xml;", Jvm.Cond.fieldLink "AddressHouse" (65 : Nat) "AddressHouse" "listing" "LAddressHouse$Listing;", Jvm.Cond.fieldLink "AddressHouse" (74 : Nat) "AddressHouse" "clerk" "LAddressHouse$Clerk;", Jvm.Cond.laysFinal "AddressHouse" "AddressHouse" "tape" "LAddressHouse$Row;", Jvm.Cond.laysFinal "AddressHouse" "AddressHouse" "answers" "LAddressHouse$Row;", Jvm.Cond.laysFinal "AddressHouse" "AddressHouse" "wires" "[LAddressHouse$Wire;", Jvm.Cond.laysFinal "AddressHouse" "AddressHouse" "house" "LAddressHouse$House;", Jvm.Cond.laysFinal "AddressHouse" "AddressHouse" "card" "LAddressHouse$Card;", Jvm.Cond.laysFinal "AddressHouse" "AddressHouse" "scribe" "LAddressHouse$Scribe;"]
def xw0_7 : List Cond := [Jvm.Cond.laysFinal "AddressHouse" "AddressHouse" "xml" "LAddressHouse$Xml;", Jvm.Cond.laysFinal "AddressHouse" "AddressHouse" "listing" "LAddressHouse$Listing;", Jvm.Cond.laysFinal "AddressHouse" "AddressHouse" "clerk" "LAddressHouse$Clerk;", Jvm.Cond.superclass "AddressHouse" "java/lang/Object", Jvm.Cond.instanceMethod ({ cls := "AddressHouse", name := "feed", desc := "(IIIII)Z" } : Jvm.MethodName), Jvm.Cond.selects "AddressHouse" ({ cls := "AddressHouse", name := "feed", desc := "(IIIII)Z" } : Jvm.MethodName) ({ cls := "AddressHouse", name := "feed", desc := "(IIIII)Z" } : Jvm.MethodName), Jvm.Cond.code ({ cls := "AddressHouse", name := "feed", desc := "(IIIII)Z" } : Jvm.MethodName) prog_1_method_2_code (6 : Nat) (Option.some Jvm.ClassFile.FieldType.boolean), Jvm.Cond.methodLink "AddressHouse" (82 : Nat) ({ cls := "AddressHouse$Row", name := "four", desc := "(I)V" } : Jvm.MethodName), Jvm.Cond.instanceMethod ({ cls := "AddressHouse$Row", name := "four", desc := "(I)V" } : Jvm.MethodName), Jvm.Cond.selects "AddressHouse$Row" ({ cls := "AddressHouse$Row", name := "four", desc := "(I)V" } : Jvm.MethodName) ({ cls := "AddressHouse$Row", name := "four", desc := "(I)V" } : Jvm.MethodName), Jvm.Cond.code ({ cls := "AddressHouse$Row", name := "four", desc := "(I)V" } : Jvm.MethodName) prog_9_method_6_code (2 : Nat) (Option.none : Option Jvm.ClassFile.FieldType), Jvm.Cond.methodLink "AddressHouse$Row" (23 : Nat) ({ cls := "AddressHouse$Row", name := "put", desc := "(I)V" } : Jvm.MethodName), Jvm.Cond.instanceMethod ({ cls := "AddressHouse$Row", name := "put", desc := "(I)V" } : Jvm.MethodName), Jvm.Cond.selects "AddressHouse$Row" ({ cls := "AddressHouse$Row", name := "put", desc := "(I)V" } : Jvm.MethodName) ({ cls := "AddressHouse$Row", name := "put", desc := "(I)V" } : Jvm.MethodName), Jvm.Cond.code ({ cls := "AddressHouse$Row", name := "put", desc := "(I)V" } : Jvm.MethodName) prog_9_method_5_code (2 : Nat) (Option.none : Option Jvm.ClassFile.FieldType), Jvm.Cond.instanceMethod ({ cls := "AddressHouse", name := "end", desc := "(I)Z" } : Jvm.MethodName), Jvm.Cond.selects "AddressHouse" ({ cls := "AddressHouse", name := "end", desc := "(I)Z" } : Jvm.MethodName) ({ cls := "AddressHouse", name := "end", desc := "(I)Z" } : Jvm.MethodName), Jvm.Cond.code ({ cls := "AddressHouse", name := "end", desc := "(I)Z" } : Jvm.MethodName) prog_1_method_3_code (2 : Nat) (Option.some Jvm.ClassFile.FieldType.boolean), Jvm.Cond.methodLink "AddressHouse" (85 : Nat) ({ cls := "AddressHouse$Row", name := "cutTo", desc := "(I)V" } : Jvm.MethodName), Jvm.Cond.instanceMethod ({ cls := "AddressHouse$Row", name := "cutTo", desc := "(I)V" } : Jvm.MethodName), Jvm.Cond.selects "AddressHouse$Row" ({ cls := "AddressHouse$Row", name := "cutTo", desc := "(I)V" } : Jvm.MethodName) ({ cls := "AddressHouse$Row", name := "cutTo", desc := "(I)V" } : Jvm.MethodName), Jvm.Cond.code ({ cls := "AddressHouse$Row", name := "cutTo", desc := "(I)V" } : Jvm.MethodName) prog_9_method_3_code (2 : Nat) (Option.none : Option Jvm.ClassFile.FieldType), Jvm.Cond.instanceMethod ({ cls := "AddressHouse", name := "user", desc := "()I" } : Jvm.MethodName), Jvm.Cond.selects "AddressHouse" ({ cls := "AddressHouse", name := "user", desc := "()I" } : Jvm.MethodName) ({ cls := "AddressHouse", name := "user", desc := "()I" } : Jvm.MethodName), Jvm.Cond.code ({ cls := "AddressHouse", name := "user", desc := "()I" } : Jvm.MethodName) prog_1_method_4_code (2 : Nat) (Option.some Jvm.ClassFile.FieldType.int), Jvm.Cond.methodLink "AddressHouse" (88 : Nat) ({ cls := "AddressHouse$House", name := "addUser", desc := "(LAddressHouse$Row;)I" } : Jvm.MethodName), Jvm.Cond.instanceMethod ({ cls := "AddressHouse$House", name := "addUser", desc := "(LAddressHouse$Row;)I" } : Jvm.MethodName), Jvm.Cond.selects "AddressHouse$House" ({ cls := "AddressHouse$House", name := "addUser", desc := "(LAddressHouse$Row;)I" } : Jvm.MethodName) ({ cls := "AddressHouse$House", name := "addUser", desc := "(LAddressHouse$Row;)I" } : Jvm.MethodName), Jvm.Cond.code ({ cls := "AddressHouse$House", name := "addUser", desc := "(LAddressHouse$Row;)I" } : Jvm.MethodName) prog_6_method_2_code (5 : Nat) (Option.some Jvm.ClassFile.FieldType.int), Jvm.Cond.methodLink "AddressHouse$House" (62 : Nat) ({ cls := "AddressHouse$Row", name := "at", desc := "(I)I" } : Jvm.MethodName), Jvm.Cond.instanceMethod ({ cls := "AddressHouse$Row", name := "at", desc := "(I)I" } : Jvm.MethodName), Jvm.Cond.selects "AddressHouse$Row" ({ cls := "AddressHouse$Row", name := "at", desc := "(I)I" } : Jvm.MethodName) ({ cls := "AddressHouse$Row", name := "at", desc := "(I)I" } : Jvm.MethodName), Jvm.Cond.code ({ cls := "AddressHouse$Row", name := "at", desc := "(I)I" } : Jvm.MethodName) prog_9_method_4_code (2 : Nat) (Option.some Jvm.ClassFile.FieldType.int), Jvm.Cond.methodLink "AddressHouse$House" (69 : Nat) ({ cls := "AddressHouse$House", name := "userNamed", desc := "(LAddressHouse$Row;II)I" } : Jvm.MethodName), Jvm.Cond.methodLink "AddressHouse$House" (73 : Nat) ({ cls := "AddressHouse$Row", name := "copy", desc := "(LAddressHouse$Row;II)V" } : Jvm.MethodName), Jvm.Cond.methodLink "AddressHouse" (92 : Nat) ({ cls := "AddressHouse$Row", name := "clear", desc := "()V" } : Jvm.MethodName), Jvm.Cond.instanceMethod ({ cls := "AddressHouse$Row", name := "clear", desc := "()V" } : Jvm.MethodName), Jvm.Cond.selects "AddressHouse$Row" ({ cls := "AddressHouse$Row", name := "clear", desc := "()V" } : Jvm.MethodName) ({ cls := "AddressHouse$Row", name := "clear", desc := "()V" } : Jvm.MethodName), Jvm.Cond.code ({ cls := "AddressHouse$Row", name := "clear", desc := "()V" } : Jvm.MethodName) prog_9_method_2_code (1 : Nat) (Option.none : Option Jvm.ClassFile.FieldType), Jvm.Cond.instanceMethod ({ cls := "AddressHouse", name := "open", desc := "()I" } : Jvm.MethodName), Jvm.Cond.selects "AddressHouse" ({ cls := "AddressHouse", name := "open", desc := "()I" } : Jvm.MethodName) ({ cls := "AddressHouse", name := "open", desc := "()I" } : Jvm.MethodName), Jvm.Cond.code ({ cls := "AddressHouse", name := "open", desc := "()I" } : Jvm.MethodName) prog_1_method_5_code (2 : Nat) (Option.some Jvm.ClassFile.FieldType.int), Jvm.Cond.methodLink "AddressHouse" (99 : Nat) ({ cls := "AddressHouse$Wire", name := "next", desc := "()V" } : Jvm.MethodName), Jvm.Cond.instanceMethod ({ cls := "AddressHouse$Wire", name := "next", desc := "()V" } : Jvm.MethodName), Jvm.Cond.selects "AddressHouse$Wire" ({ cls := "AddressHouse$Wire", name := "next", desc := "()V" } : Jvm.MethodName) ({ cls := "AddressHouse$Wire", name := "next", desc := "()V" } : Jvm.MethodName), Jvm.Cond.code ({ cls := "AddressHouse$Wire", name := "next", desc := "()V" } : Jvm.MethodName) prog_11_method_2_code (1 : Nat) (Option.none : Option Jvm.ClassFile.FieldType), Jvm.Cond.methodLink "AddressHouse$Wire" (30 : Nat) ({ cls := "AddressHouse$Row", name := "clear", desc := "()V" } : Jvm.MethodName), Jvm.Cond.instanceMethod ({ cls := "AddressHouse", name := "isOpen", desc := "(I)Z" } : Jvm.MethodName), Jvm.Cond.selects "AddressHouse" ({ cls := "AddressHouse", name := "isOpen", desc := "(I)Z" } : Jvm.MethodName) ({ cls := "AddressHouse", name := "isOpen", desc := "(I)Z" } : Jvm.MethodName), Jvm.Cond.code ({ cls := "AddressHouse", name := "isOpen", desc := "(I)Z" } : Jvm.MethodName) prog_1_method_7_code (2 : Nat) (Option.some Jvm.ClassFile.FieldType.boolean)]
def xw0_8 : List Cond := [Jvm.Cond.instanceMethod ({ cls := "AddressHouse", name := "shut", desc := "(I)Z" } : Jvm.MethodName), Jvm.Cond.selects "AddressHouse" ({ cls := "AddressHouse", name := "shut", desc := "(I)Z" } : Jvm.MethodName) ({ cls := "AddressHouse", name := "shut", desc := "(I)Z" } : Jvm.MethodName), Jvm.Cond.code ({ cls := "AddressHouse", name := "shut", desc := "(I)Z" } : Jvm.MethodName) prog_1_method_8_code (2 : Nat) (Option.some Jvm.ClassFile.FieldType.boolean), Jvm.Cond.methodLink "AddressHouse" (102 : Nat) ({ cls := "AddressHouse", name := "isOpen", desc := "(I)Z" } : Jvm.MethodName), Jvm.Cond.instanceMethod ({ cls := "AddressHouse", name := "out", desc := "()I" } : Jvm.MethodName), Jvm.Cond.selects "AddressHouse" ({ cls := "AddressHouse", name := "out", desc := "()I" } : Jvm.MethodName) ({ cls := "AddressHouse", name := "out", desc := "()I" } : Jvm.MethodName), Jvm.Cond.code ({ cls := "AddressHouse", name := "out", desc := "()I" } : Jvm.MethodName) prog_1_method_9_code (1 : Nat) (Option.some Jvm.ClassFile.FieldType.int), Jvm.Cond.instanceMethod ({ cls := "AddressHouse$Card", name := "read", desc := "(LAddressHouse$Row;)Z" } : Jvm.MethodName), Jvm.Cond.selects "AddressHouse$Card" ({ cls := "AddressHouse$Card", name := "read", desc := "(LAddressHouse$Row;)Z" } : Jvm.MethodName) ({ cls := "AddressHouse$Card", name := "read", desc := "(LAddressHouse$Row;)Z" } : Jvm.MethodName), Jvm.Cond.code ({ cls := "AddressHouse$Card", name := "read", desc := "(LAddressHouse$Row;)Z" } : Jvm.MethodName) prog_3_method_2_code (7 : Nat) (Option.some Jvm.ClassFile.FieldType.boolean), Jvm.Cond.methodLink "AddressHouse$Card" (38 : Nat) ({ cls := "AddressHouse$Card", name := "unfold", desc := "(LAddressHouse$Row;)V" } : Jvm.MethodName), Jvm.Cond.instanceMethod ({ cls := "AddressHouse$Card", name := "unfold", desc := "(LAddressHouse$Row;)V" } : Jvm.MethodName), Jvm.Cond.code ({ cls := "AddressHouse$Card", name := "unfold", desc := "(LAddressHouse$Row;)V" } : Jvm.MethodName) prog_3_method_3_code (4 : Nat) (Option.none : Option Jvm.ClassFile.FieldType), Jvm.Cond.methodLink "AddressHouse$Card" (78 : Nat) ({ cls := "AddressHouse$Row", name := "clear", desc := "()V" } : Jvm.MethodName), Jvm.Cond.methodLink "AddressHouse$Card" (60 : Nat) ({ cls := "AddressHouse$Row", name := "at", desc := "(I)I" } : Jvm.MethodName), Jvm.Cond.methodLink "AddressHouse$Card" (81 : Nat) ({ cls := "AddressHouse$Row", name := "put", desc := "(I)V" } : Jvm.MethodName), Jvm.Cond.methodLink "AddressHouse$Card" (55 : Nat) ({ cls := "AddressHouse$Card", name := "isClean", desc := "()Z" } : Jvm.MethodName), Jvm.Cond.instanceMethod ({ cls := "AddressHouse$Card", name := "isClean", desc := "()Z" } : Jvm.MethodName), Jvm.Cond.code ({ cls := "AddressHouse$Card", name := "isClean", desc := "()Z" } : Jvm.MethodName) prog_3_method_4_code (3 : Nat) (Option.some Jvm.ClassFile.FieldType.boolean), Jvm.Cond.methodLink "AddressHouse$Card" (84 : Nat) ({ cls := "AddressHouse$Row", name := "codeAt", desc := "(I)I" } : Jvm.MethodName), Jvm.Cond.methodLink "AddressHouse$Card" (87 : Nat) ({ cls := "AddressHouse$Row", name := "widthOf", desc := "(I)I" } : Jvm.MethodName), Jvm.Cond.methodLink "AddressHouse$Card" (64 : Nat) ({ cls := "AddressHouse$Card", name := "property", desc := "(II)Z" } : Jvm.MethodName), Jvm.Cond.methodLink "AddressHouse$Card" (68 : Nat) ({ cls := "AddressHouse$Card", name := "isBuilt", desc := "()Z" } : Jvm.MethodName), Jvm.Cond.methodLink "AddressHouse$Card" (71 : Nat) ({ cls := "AddressHouse$Card", name := "isFrame", desc := "(III)Z" } : Jvm.MethodName), Jvm.Cond.methodLink "AddressHouse$Card" (75 : Nat) ({ cls := "AddressHouse$Card", name := "isComplete", desc := "()Z" } : Jvm.MethodName), Jvm.Cond.instanceMethod ({ cls := "AddressHouse", name := "count", desc := "(I)I" } : Jvm.MethodName), Jvm.Cond.selects "AddressHouse" ({ cls := "AddressHouse", name := "count", desc := "(I)I" } : Jvm.MethodName) ({ cls := "AddressHouse", name := "count", desc := "(I)I" } : Jvm.MethodName), Jvm.Cond.code ({ cls := "AddressHouse", name := "count", desc := "(I)I" } : Jvm.MethodName) prog_1_method_12_code (2 : Nat) (Option.some Jvm.ClassFile.FieldType.int), Jvm.Cond.methodLink "AddressHouse" (195 : Nat) ({ cls := "AddressHouse$House", name := "bookCount", desc := "()I" } : Jvm.MethodName), Jvm.Cond.instanceMethod ({ cls := "AddressHouse$House", name := "bookCount", desc := "()I" } : Jvm.MethodName), Jvm.Cond.selects "AddressHouse$House" ({ cls := "AddressHouse$House", name := "bookCount", desc := "()I" } : Jvm.MethodName) ({ cls := "AddressHouse$House", name := "bookCount", desc := "()I" } : Jvm.MethodName), Jvm.Cond.code ({ cls := "AddressHouse$House", name := "bookCount", desc := "()I" } : Jvm.MethodName) prog_6_method_14_code (3 : Nat) (Option.some Jvm.ClassFile.FieldType.int), Jvm.Cond.methodLink "AddressHouse" (199 : Nat) ({ cls := "AddressHouse$House", name := "itemCount", desc := "()I" } : Jvm.MethodName), Jvm.Cond.instanceMethod ({ cls := "AddressHouse$House", name := "itemCount", desc := "()I" } : Jvm.MethodName), Jvm.Cond.selects "AddressHouse$House" ({ cls := "AddressHouse$House", name := "itemCount", desc := "()I" } : Jvm.MethodName) ({ cls := "AddressHouse$House", name := "itemCount", desc := "()I" } : Jvm.MethodName), Jvm.Cond.code ({ cls := "AddressHouse$House", name := "itemCount", desc := "()I" } : Jvm.MethodName) prog_6_method_15_code (3 : Nat) (Option.some Jvm.ClassFile.FieldType.int), Jvm.Cond.arrayClass Jvm.ClassFile.FieldType.boolean, Jvm.Cond.arrayClass Jvm.ClassFile.FieldType.long, Jvm.Cond.selects "AddressHouse$Card" ({ cls := "AddressHouse$Card", name := "unfold", desc := "(LAddressHouse$Row;)V" } : Jvm.MethodName) ({ cls := "AddressHouse$Card", name := "unfold", desc := "(LAddressHouse$Row;)V" } : Jvm.MethodName), Jvm.Cond.selects "AddressHouse$Card" ({ cls := "AddressHouse$Card", name := "isClean", desc := "()Z" } : Jvm.MethodName) ({ cls := "AddressHouse$Card", name := "isClean", desc := "()Z" } : Jvm.MethodName)]
def xw0 : List Cond := xw0_0 ++ (xw0_1 ++ (xw0_2 ++ (xw0_3 ++ (xw0_4 ++ (xw0_5 ++ (xw0_6 ++ (xw0_7 ++ (xw0_8))))))))
theorem k_0 : Jvm.Cond.initialized "AddressHouse" ∈ xw0 := List.mem_of_getElem? (i := 0) rfl
theorem k_1 : Jvm.Cond.initialized "AddressHouse$Row" ∈ xw0 := List.mem_of_getElem? (i := 1) rfl
theorem k_2 : Jvm.Cond.initialized "AddressHouse$Wire" ∈ xw0 := List.mem_of_getElem? (i := 2) rfl
theorem k_3 : Jvm.Cond.initialized "AddressHouse$House" ∈ xw0 := List.mem_of_getElem? (i := 3) rfl
theorem k_4 : Jvm.Cond.initialized "AddressHouse$Book" ∈ xw0 := List.mem_of_getElem? (i := 4) rfl
theorem k_5 : Jvm.Cond.initialized "AddressHouse$Item" ∈ xw0 := List.mem_of_getElem? (i := 5) rfl
theorem k_6 : Jvm.Cond.initialized "AddressHouse$Card" ∈ xw0 := List.mem_of_getElem? (i := 6) rfl
theorem k_7 : Jvm.Cond.initialized "AddressHouse$Xml" ∈ xw0 := List.mem_of_getElem? (i := 7) rfl
theorem k_8 : Jvm.Cond.initialized "AddressHouse$Scribe" ∈ xw0 := List.mem_of_getElem? (i := 8) rfl
theorem k_9 : Jvm.Cond.initialized "AddressHouse$Listing" ∈ xw0 := List.mem_of_getElem? (i := 9) rfl
theorem k_10 : Jvm.Cond.initialized "AddressHouse$Clerk" ∈ xw0 := List.mem_of_getElem? (i := 10) rfl
theorem k_11 : Jvm.Cond.initialized "AddressHouse$Filter" ∈ xw0 := List.mem_of_getElem? (i := 11) rfl
theorem k_12 : Jvm.Cond.instantiable "AddressHouse" (9 : Nat) ∈ xw0 := List.mem_of_getElem? (i := 12) rfl
theorem k_13 : Jvm.Cond.instanceMethod ({ cls := "AddressHouse", name := "<init>", desc := "()V" } : Jvm.MethodName) ∈ xw0 := List.mem_of_getElem? (i := 13) rfl
theorem k_14 : Jvm.Cond.code ({ cls := "AddressHouse", name := "<init>", desc := "()V" } : Jvm.MethodName) prog_1_method_1_code (2 : Nat) (Option.none : Option Jvm.ClassFile.FieldType) ∈ xw0 := List.mem_of_getElem? (i := 14) rfl
theorem k_15 : Jvm.Cond.methodLink "AddressHouse" (1 : Nat) ({ cls := "java/lang/Object", name := "<init>", desc := "()V" } : Jvm.MethodName) ∈ xw0 := List.mem_of_getElem? (i := 15) rfl
theorem k_16 : Jvm.Cond.instanceMethod ({ cls := "java/lang/Object", name := "<init>", desc := "()V" } : Jvm.MethodName) ∈ xw0 := List.mem_of_getElem? (i := 16) rfl
theorem k_17 : Jvm.Cond.code ({ cls := "java/lang/Object", name := "<init>", desc := "()V" } : Jvm.MethodName) object_method_1_code (1 : Nat) (Option.none : Option Jvm.ClassFile.FieldType) ∈ xw0 := List.mem_of_getElem? (i := 17) rfl
theorem k_18 : Jvm.Cond.classLink "AddressHouse" (7 : Nat) "AddressHouse$Row" ∈ xw0 := List.mem_of_getElem? (i := 18) rfl
theorem k_19 : Jvm.Cond.instantiable "AddressHouse$Row" (3 : Nat) ∈ xw0 := List.mem_of_getElem? (i := 19) rfl
theorem k_20 : Jvm.Cond.methodLink "AddressHouse" (11 : Nat) ({ cls := "AddressHouse$Row", name := "<init>", desc := "(I)V" } : Jvm.MethodName) ∈ xw0 := List.mem_of_getElem? (i := 20) rfl
theorem k_21 : Jvm.Cond.instanceMethod ({ cls := "AddressHouse$Row", name := "<init>", desc := "(I)V" } : Jvm.MethodName) ∈ xw0 := List.mem_of_getElem? (i := 21) rfl
theorem k_22 : Jvm.Cond.code ({ cls := "AddressHouse$Row", name := "<init>", desc := "(I)V" } : Jvm.MethodName) prog_9_method_1_code (2 : Nat) (Option.none : Option Jvm.ClassFile.FieldType) ∈ xw0 := List.mem_of_getElem? (i := 22) rfl
theorem k_23 : Jvm.Cond.methodLink "AddressHouse$Row" (3 : Nat) ({ cls := "java/lang/Object", name := "<init>", desc := "()V" } : Jvm.MethodName) ∈ xw0 := List.mem_of_getElem? (i := 23) rfl
theorem k_24 : Jvm.Cond.fieldLink "AddressHouse$Row" (9 : Nat) "AddressHouse$Row" "cells" "[B" ∈ xw0 := List.mem_of_getElem? (i := 24) rfl
theorem k_25 : Jvm.Cond.fieldLink "AddressHouse$Row" (15 : Nat) "AddressHouse$Row" "size" "I" ∈ xw0 := List.mem_of_getElem? (i := 25) rfl
theorem k_26 : Jvm.Cond.fieldLink "AddressHouse" (78 : Nat) "AddressHouse$Row" "size" "I" ∈ xw0 := List.mem_of_getElem? (i := 26) rfl
theorem k_27 : Jvm.Cond.fieldLink "AddressHouse$House" (58 : Nat) "AddressHouse$Row" "size" "I" ∈ xw0 := List.mem_of_getElem? (i := 27) rfl
theorem k_28 : Jvm.Cond.fieldLink "AddressHouse$Card" (59 : Nat) "AddressHouse$Row" "size" "I" ∈ xw0 := List.mem_of_getElem? (i := 28) rfl
theorem k_29 : Jvm.Cond.fieldLink "AddressHouse$Row" (19 : Nat) "AddressHouse$Row" "over" "Z" ∈ xw0 := List.mem_of_getElem? (i := 29) rfl
theorem k_30 : Jvm.Cond.laysFinal "AddressHouse$Row" "AddressHouse$Row" "cells" "[B" ∈ xw0 := List.mem_of_getElem? (i := 30) rfl
theorem k_31 : Jvm.Cond.lays "AddressHouse$Row" "AddressHouse$Row" "size" "I" ∈ xw0 := List.mem_of_getElem? (i := 31) rfl
theorem k_32 : Jvm.Cond.lays "AddressHouse$Row" "AddressHouse$Row" "over" "Z" ∈ xw0 := List.mem_of_getElem? (i := 32) rfl
theorem k_33 : Jvm.Cond.superclass "AddressHouse$Row" "java/lang/Object" ∈ xw0 := List.mem_of_getElem? (i := 33) rfl
theorem k_34 : Jvm.Cond.arrayClass Jvm.ClassFile.FieldType.byte ∈ xw0 := List.mem_of_getElem? (i := 34) rfl
theorem k_35 : Jvm.Cond.constant "AddressHouse" (18 : Nat) (65536 : Int32) ∈ xw0 := List.mem_of_getElem? (i := 35) rfl
theorem k_36 : Jvm.Cond.classLink "AddressHouse" (22 : Nat) "AddressHouse$Wire" ∈ xw0 := List.mem_of_getElem? (i := 36) rfl
theorem k_37 : Jvm.Cond.instantiable "AddressHouse$Wire" (11 : Nat) ∈ xw0 := List.mem_of_getElem? (i := 37) rfl
theorem k_38 : Jvm.Cond.methodLink "AddressHouse" (28 : Nat) ({ cls := "AddressHouse$Wire", name := "<init>", desc := "()V" } : Jvm.MethodName) ∈ xw0 := List.mem_of_getElem? (i := 38) rfl
theorem k_39 : Jvm.Cond.instanceMethod ({ cls := "AddressHouse$Wire", name := "<init>", desc := "()V" } : Jvm.MethodName) ∈ xw0 := List.mem_of_getElem? (i := 39) rfl
theorem k_40 : Jvm.Cond.code ({ cls := "AddressHouse$Wire", name := "<init>", desc := "()V" } : Jvm.MethodName) prog_11_method_1_code (1 : Nat) (Option.none : Option Jvm.ClassFile.FieldType) ∈ xw0 := List.mem_of_getElem? (i := 40) rfl
theorem k_41 : Jvm.Cond.methodLink "AddressHouse$Wire" (3 : Nat) ({ cls := "java/lang/Object", name := "<init>", desc := "()V" } : Jvm.MethodName) ∈ xw0 := List.mem_of_getElem? (i := 41) rfl
theorem k_42 : Jvm.Cond.classLink "AddressHouse$Wire" (9 : Nat) "AddressHouse$Row" ∈ xw0 := List.mem_of_getElem? (i := 42) rfl
theorem k_43 : Jvm.Cond.methodLink "AddressHouse$Wire" (13 : Nat) ({ cls := "AddressHouse$Row", name := "<init>", desc := "(I)V" } : Jvm.MethodName) ∈ xw0 := List.mem_of_getElem? (i := 43) rfl
theorem k_44 : Jvm.Cond.fieldLink "AddressHouse$Wire" (16 : Nat) "AddressHouse$Wire" "head" "LAddressHouse$Row;" ∈ xw0 := List.mem_of_getElem? (i := 44) rfl
theorem k_45 : Jvm.Cond.fieldLink "AddressHouse$Wire" (20 : Nat) "AddressHouse$Wire" "load" "LAddressHouse$Row;" ∈ xw0 := List.mem_of_getElem? (i := 45) rfl
theorem k_46 : Jvm.Cond.fieldLink "AddressHouse$Wire" (23 : Nat) "AddressHouse$Wire" "from" "[I" ∈ xw0 := List.mem_of_getElem? (i := 46) rfl
theorem k_47 : Jvm.Cond.fieldLink "AddressHouse$Wire" (27 : Nat) "AddressHouse$Wire" "to" "[I" ∈ xw0 := List.mem_of_getElem? (i := 47) rfl
theorem k_48 : Jvm.Cond.fieldLink "AddressHouse" (95 : Nat) "AddressHouse$Wire" "alive" "Z" ∈ xw0 := List.mem_of_getElem? (i := 48) rfl
theorem k_49 : Jvm.Cond.fieldLink "AddressHouse$Wire" (33 : Nat) "AddressHouse$Wire" "state" "I" ∈ xw0 := List.mem_of_getElem? (i := 49) rfl
theorem k_50 : Jvm.Cond.laysFinal "AddressHouse$Wire" "AddressHouse$Wire" "head" "LAddressHouse$Row;" ∈ xw0 := List.mem_of_getElem? (i := 50) rfl
theorem k_51 : Jvm.Cond.laysFinal "AddressHouse$Wire" "AddressHouse$Wire" "load" "LAddressHouse$Row;" ∈ xw0 := List.mem_of_getElem? (i := 51) rfl
theorem k_52 : Jvm.Cond.laysFinal "AddressHouse$Wire" "AddressHouse$Wire" "from" "[I" ∈ xw0 := List.mem_of_getElem? (i := 52) rfl
theorem k_53 : Jvm.Cond.laysFinal "AddressHouse$Wire" "AddressHouse$Wire" "to" "[I" ∈ xw0 := List.mem_of_getElem? (i := 53) rfl
theorem k_54 : Jvm.Cond.lays "AddressHouse$Wire" "AddressHouse$Wire" "alive" "Z" ∈ xw0 := List.mem_of_getElem? (i := 54) rfl
theorem k_55 : Jvm.Cond.lays "AddressHouse$Wire" "AddressHouse$Wire" "methodTo" "I" ∈ xw0 := List.mem_of_getElem? (i := 55) rfl
theorem k_56 : Jvm.Cond.lays "AddressHouse$Wire" "AddressHouse$Wire" "targetTo" "I" ∈ xw0 := List.mem_of_getElem? (i := 56) rfl
theorem k_57 : Jvm.Cond.lays "AddressHouse$Wire" "AddressHouse$Wire" "state" "I" ∈ xw0 := List.mem_of_getElem? (i := 57) rfl
theorem k_58 : Jvm.Cond.lays "AddressHouse$Wire" "AddressHouse$Wire" "need" "I" ∈ xw0 := List.mem_of_getElem? (i := 58) rfl
theorem k_59 : Jvm.Cond.lays "AddressHouse$Wire" "AddressHouse$Wire" "digits" "I" ∈ xw0 := List.mem_of_getElem? (i := 59) rfl
theorem k_60 : Jvm.Cond.lays "AddressHouse$Wire" "AddressHouse$Wire" "twice" "Z" ∈ xw0 := List.mem_of_getElem? (i := 60) rfl
theorem k_61 : Jvm.Cond.superclass "AddressHouse$Wire" "java/lang/Object" ∈ xw0 := List.mem_of_getElem? (i := 61) rfl
theorem k_62 : Jvm.Cond.arrayClass Jvm.ClassFile.FieldType.int ∈ xw0 := List.mem_of_getElem? (i := 62) rfl
theorem k_63 : Jvm.Cond.classLink "AddressHouse" (29 : Nat) "AddressHouse$House" ∈ xw0 := List.mem_of_getElem? (i := 63) rfl
theorem k_64 : Jvm.Cond.instantiable "AddressHouse$House" (17 : Nat) ∈ xw0 := List.mem_of_getElem? (i := 64) rfl
theorem k_65 : Jvm.Cond.methodLink "AddressHouse" (31 : Nat) ({ cls := "AddressHouse$House", name := "<init>", desc := "()V" } : Jvm.MethodName) ∈ xw0 := List.mem_of_getElem? (i := 65) rfl
theorem k_66 : Jvm.Cond.instanceMethod ({ cls := "AddressHouse$House", name := "<init>", desc := "()V" } : Jvm.MethodName) ∈ xw0 := List.mem_of_getElem? (i := 66) rfl
theorem k_67 : Jvm.Cond.code ({ cls := "AddressHouse$House", name := "<init>", desc := "()V" } : Jvm.MethodName) prog_6_method_1_code (2 : Nat) (Option.none : Option Jvm.ClassFile.FieldType) ∈ xw0 := List.mem_of_getElem? (i := 67) rfl
theorem k_68 : Jvm.Cond.methodLink "AddressHouse$House" (3 : Nat) ({ cls := "java/lang/Object", name := "<init>", desc := "()V" } : Jvm.MethodName) ∈ xw0 := List.mem_of_getElem? (i := 68) rfl
theorem k_69 : Jvm.Cond.classLink "AddressHouse$House" (11 : Nat) "AddressHouse$Row" ∈ xw0 := List.mem_of_getElem? (i := 69) rfl
theorem k_70 : Jvm.Cond.methodLink "AddressHouse$House" (21 : Nat) ({ cls := "AddressHouse$Row", name := "<init>", desc := "(I)V" } : Jvm.MethodName) ∈ xw0 := List.mem_of_getElem? (i := 70) rfl
theorem k_71 : Jvm.Cond.classLink "AddressHouse$House" (24 : Nat) "AddressHouse$Book" ∈ xw0 := List.mem_of_getElem? (i := 71) rfl
theorem k_72 : Jvm.Cond.instantiable "AddressHouse$Book" (13 : Nat) ∈ xw0 := List.mem_of_getElem? (i := 72) rfl
theorem k_73 : Jvm.Cond.methodLink "AddressHouse$House" (30 : Nat) ({ cls := "AddressHouse$Book", name := "<init>", desc := "()V" } : Jvm.MethodName) ∈ xw0 := List.mem_of_getElem? (i := 73) rfl
theorem k_74 : Jvm.Cond.instanceMethod ({ cls := "AddressHouse$Book", name := "<init>", desc := "()V" } : Jvm.MethodName) ∈ xw0 := List.mem_of_getElem? (i := 74) rfl
theorem k_75 : Jvm.Cond.code ({ cls := "AddressHouse$Book", name := "<init>", desc := "()V" } : Jvm.MethodName) prog_2_method_1_code (2 : Nat) (Option.none : Option Jvm.ClassFile.FieldType) ∈ xw0 := List.mem_of_getElem? (i := 75) rfl
theorem k_76 : Jvm.Cond.methodLink "AddressHouse$Book" (3 : Nat) ({ cls := "java/lang/Object", name := "<init>", desc := "()V" } : Jvm.MethodName) ∈ xw0 := List.mem_of_getElem? (i := 76) rfl
theorem k_77 : Jvm.Cond.classLink "AddressHouse$Book" (15 : Nat) "AddressHouse$Row" ∈ xw0 := List.mem_of_getElem? (i := 77) rfl
theorem k_78 : Jvm.Cond.methodLink "AddressHouse$Book" (17 : Nat) ({ cls := "AddressHouse$Row", name := "<init>", desc := "(I)V" } : Jvm.MethodName) ∈ xw0 := List.mem_of_getElem? (i := 78) rfl
theorem k_79 : Jvm.Cond.fieldLink "AddressHouse$Book" (9 : Nat) "AddressHouse$Book" "owner" "I" ∈ xw0 := List.mem_of_getElem? (i := 79) rfl
theorem k_80 : Jvm.Cond.fieldLink "AddressHouse$House" (162 : Nat) "AddressHouse$Book" "owner" "I" ∈ xw0 := List.mem_of_getElem? (i := 80) rfl
theorem k_81 : Jvm.Cond.fieldLink "AddressHouse$Book" (20 : Nat) "AddressHouse$Book" "name" "LAddressHouse$Row;" ∈ xw0 := List.mem_of_getElem? (i := 81) rfl
theorem k_82 : Jvm.Cond.fieldLink "AddressHouse$Book" (24 : Nat) "AddressHouse$Book" "title" "LAddressHouse$Row;" ∈ xw0 := List.mem_of_getElem? (i := 82) rfl
theorem k_83 : Jvm.Cond.fieldLink "AddressHouse$Book" (27 : Nat) "AddressHouse$Book" "note" "LAddressHouse$Row;" ∈ xw0 := List.mem_of_getElem? (i := 83) rfl
theorem k_84 : Jvm.Cond.fieldLink "AddressHouse$Book" (32 : Nat) "AddressHouse$Book" "readers" "[I" ∈ xw0 := List.mem_of_getElem? (i := 84) rfl
theorem k_85 : Jvm.Cond.fieldLink "AddressHouse$Book" (36 : Nat) "AddressHouse$Book" "goneNames" "[LAddressHouse$Row;" ∈ xw0 := List.mem_of_getElem? (i := 85) rfl
theorem k_86 : Jvm.Cond.fieldLink "AddressHouse$Book" (40 : Nat) "AddressHouse$Book" "goneChanges" "[I" ∈ xw0 := List.mem_of_getElem? (i := 86) rfl
theorem k_87 : Jvm.Cond.lays "AddressHouse$Book" "AddressHouse$Book" "owner" "I" ∈ xw0 := List.mem_of_getElem? (i := 87) rfl
theorem k_88 : Jvm.Cond.lays "AddressHouse$Book" "AddressHouse$Book" "made" "I" ∈ xw0 := List.mem_of_getElem? (i := 88) rfl
theorem k_89 : Jvm.Cond.laysFinal "AddressHouse$Book" "AddressHouse$Book" "name" "LAddressHouse$Row;" ∈ xw0 := List.mem_of_getElem? (i := 89) rfl
theorem k_90 : Jvm.Cond.laysFinal "AddressHouse$Book" "AddressHouse$Book" "title" "LAddressHouse$Row;" ∈ xw0 := List.mem_of_getElem? (i := 90) rfl
theorem k_91 : Jvm.Cond.lays "AddressHouse$Book" "AddressHouse$Book" "hasTitle" "Z" ∈ xw0 := List.mem_of_getElem? (i := 91) rfl
theorem k_92 : Jvm.Cond.laysFinal "AddressHouse$Book" "AddressHouse$Book" "note" "LAddressHouse$Row;" ∈ xw0 := List.mem_of_getElem? (i := 92) rfl
theorem k_93 : Jvm.Cond.lays "AddressHouse$Book" "AddressHouse$Book" "hasNote" "Z" ∈ xw0 := List.mem_of_getElem? (i := 93) rfl
theorem k_94 : Jvm.Cond.laysFinal "AddressHouse$Book" "AddressHouse$Book" "readers" "[I" ∈ xw0 := List.mem_of_getElem? (i := 94) rfl
theorem k_95 : Jvm.Cond.lays "AddressHouse$Book" "AddressHouse$Book" "readerCount" "I" ∈ xw0 := List.mem_of_getElem? (i := 95) rfl
theorem k_96 : Jvm.Cond.laysFinal "AddressHouse$Book" "AddressHouse$Book" "goneNames" "[LAddressHouse$Row;" ∈ xw0 := List.mem_of_getElem? (i := 96) rfl
theorem k_97 : Jvm.Cond.laysFinal "AddressHouse$Book" "AddressHouse$Book" "goneChanges" "[I" ∈ xw0 := List.mem_of_getElem? (i := 97) rfl
theorem k_98 : Jvm.Cond.lays "AddressHouse$Book" "AddressHouse$Book" "goneCount" "I" ∈ xw0 := List.mem_of_getElem? (i := 98) rfl
theorem k_99 : Jvm.Cond.lays "AddressHouse$Book" "AddressHouse$Book" "forgotten" "I" ∈ xw0 := List.mem_of_getElem? (i := 99) rfl
theorem k_100 : Jvm.Cond.superclass "AddressHouse$Book" "java/lang/Object" ∈ xw0 := List.mem_of_getElem? (i := 100) rfl
theorem k_101 : Jvm.Cond.classLink "AddressHouse$House" (31 : Nat) "AddressHouse$Item" ∈ xw0 := List.mem_of_getElem? (i := 101) rfl
theorem k_102 : Jvm.Cond.instantiable "AddressHouse$Item" (5 : Nat) ∈ xw0 := List.mem_of_getElem? (i := 102) rfl
theorem k_103 : Jvm.Cond.methodLink "AddressHouse$House" (37 : Nat) ({ cls := "AddressHouse$Item", name := "<init>", desc := "()V" } : Jvm.MethodName) ∈ xw0 := List.mem_of_getElem? (i := 103) rfl
theorem k_104 : Jvm.Cond.instanceMethod ({ cls := "AddressHouse$Item", name := "<init>", desc := "()V" } : Jvm.MethodName) ∈ xw0 := List.mem_of_getElem? (i := 104) rfl
theorem k_105 : Jvm.Cond.code ({ cls := "AddressHouse$Item", name := "<init>", desc := "()V" } : Jvm.MethodName) prog_7_method_1_code (1 : Nat) (Option.none : Option Jvm.ClassFile.FieldType) ∈ xw0 := List.mem_of_getElem? (i := 105) rfl
theorem k_106 : Jvm.Cond.methodLink "AddressHouse$Item" (3 : Nat) ({ cls := "java/lang/Object", name := "<init>", desc := "()V" } : Jvm.MethodName) ∈ xw0 := List.mem_of_getElem? (i := 106) rfl
theorem k_107 : Jvm.Cond.classLink "AddressHouse$Item" (15 : Nat) "AddressHouse$Row" ∈ xw0 := List.mem_of_getElem? (i := 107) rfl
theorem k_108 : Jvm.Cond.methodLink "AddressHouse$Item" (17 : Nat) ({ cls := "AddressHouse$Row", name := "<init>", desc := "(I)V" } : Jvm.MethodName) ∈ xw0 := List.mem_of_getElem? (i := 108) rfl
theorem k_109 : Jvm.Cond.fieldLink "AddressHouse$Item" (9 : Nat) "AddressHouse$Item" "book" "I" ∈ xw0 := List.mem_of_getElem? (i := 109) rfl
theorem k_110 : Jvm.Cond.fieldLink "AddressHouse$House" (166 : Nat) "AddressHouse$Item" "book" "I" ∈ xw0 := List.mem_of_getElem? (i := 110) rfl
theorem k_111 : Jvm.Cond.fieldLink "AddressHouse$Item" (20 : Nat) "AddressHouse$Item" "name" "LAddressHouse$Row;" ∈ xw0 := List.mem_of_getElem? (i := 111) rfl
theorem k_112 : Jvm.Cond.fieldLink "AddressHouse$Item" (26 : Nat) "AddressHouse$Item" "text" "LAddressHouse$Row;" ∈ xw0 := List.mem_of_getElem? (i := 112) rfl
theorem k_113 : Jvm.Cond.fieldLink "AddressHouse$Item" (29 : Nat) "AddressHouse$Item" "uid" "LAddressHouse$Row;" ∈ xw0 := List.mem_of_getElem? (i := 113) rfl
theorem k_114 : Jvm.Cond.lays "AddressHouse$Item" "AddressHouse$Item" "book" "I" ∈ xw0 := List.mem_of_getElem? (i := 114) rfl
theorem k_115 : Jvm.Cond.lays "AddressHouse$Item" "AddressHouse$Item" "change" "I" ∈ xw0 := List.mem_of_getElem? (i := 115) rfl
theorem k_116 : Jvm.Cond.laysFinal "AddressHouse$Item" "AddressHouse$Item" "name" "LAddressHouse$Row;" ∈ xw0 := List.mem_of_getElem? (i := 116) rfl
theorem k_117 : Jvm.Cond.laysFinal "AddressHouse$Item" "AddressHouse$Item" "text" "LAddressHouse$Row;" ∈ xw0 := List.mem_of_getElem? (i := 117) rfl
theorem k_118 : Jvm.Cond.laysFinal "AddressHouse$Item" "AddressHouse$Item" "uid" "LAddressHouse$Row;" ∈ xw0 := List.mem_of_getElem? (i := 118) rfl
theorem k_119 : Jvm.Cond.superclass "AddressHouse$Item" "java/lang/Object" ∈ xw0 := List.mem_of_getElem? (i := 119) rfl
theorem k_120 : Jvm.Cond.fieldLink "AddressHouse$House" (13 : Nat) "AddressHouse$House" "users" "[LAddressHouse$Row;" ∈ xw0 := List.mem_of_getElem? (i := 120) rfl
theorem k_121 : Jvm.Cond.fieldLink "AddressHouse$House" (17 : Nat) "AddressHouse$House" "nameTo" "[I" ∈ xw0 := List.mem_of_getElem? (i := 121) rfl
theorem k_122 : Jvm.Cond.fieldLink "AddressHouse$House" (66 : Nat) "AddressHouse$House" "userCount" "I" ∈ xw0 := List.mem_of_getElem? (i := 122) rfl
theorem k_123 : Jvm.Cond.fieldLink "AddressHouse$House" (26 : Nat) "AddressHouse$House" "books" "[LAddressHouse$Book;" ∈ xw0 := List.mem_of_getElem? (i := 123) rfl
theorem k_124 : Jvm.Cond.fieldLink "AddressHouse$House" (33 : Nat) "AddressHouse$House" "items" "[LAddressHouse$Item;" ∈ xw0 := List.mem_of_getElem? (i := 124) rfl
theorem k_125 : Jvm.Cond.fieldLink "AddressHouse" (202 : Nat) "AddressHouse$House" "changes" "I" ∈ xw0 := List.mem_of_getElem? (i := 125) rfl
theorem k_126 : Jvm.Cond.fieldLink "AddressHouse$House" (38 : Nat) "AddressHouse$House" "order" "[I" ∈ xw0 := List.mem_of_getElem? (i := 126) rfl
theorem k_127 : Jvm.Cond.fieldLink "AddressHouse$House" (41 : Nat) "AddressHouse$House" "secret" "LAddressHouse$Row;" ∈ xw0 := List.mem_of_getElem? (i := 127) rfl
theorem k_128 : Jvm.Cond.fieldLink "AddressHouse$House" (45 : Nat) "AddressHouse$House" "noBook" "LAddressHouse$Book;" ∈ xw0 := List.mem_of_getElem? (i := 128) rfl
theorem k_129 : Jvm.Cond.fieldLink "AddressHouse$House" (49 : Nat) "AddressHouse$House" "noItem" "LAddressHouse$Item;" ∈ xw0 := List.mem_of_getElem? (i := 129) rfl
theorem k_130 : Jvm.Cond.fieldLink "AddressHouse$House" (55 : Nat) "AddressHouse$House" "path" "LAddressHouse$Row;" ∈ xw0 := List.mem_of_getElem? (i := 130) rfl
theorem k_131 : Jvm.Cond.laysFinal "AddressHouse$House" "AddressHouse$House" "users" "[LAddressHouse$Row;" ∈ xw0 := List.mem_of_getElem? (i := 131) rfl
theorem k_132 : Jvm.Cond.laysFinal "AddressHouse$House" "AddressHouse$House" "nameTo" "[I" ∈ xw0 := List.mem_of_getElem? (i := 132) rfl
theorem k_133 : Jvm.Cond.lays "AddressHouse$House" "AddressHouse$House" "userCount" "I" ∈ xw0 := List.mem_of_getElem? (i := 133) rfl
theorem k_134 : Jvm.Cond.laysFinal "AddressHouse$House" "AddressHouse$House" "books" "[LAddressHouse$Book;" ∈ xw0 := List.mem_of_getElem? (i := 134) rfl
theorem k_135 : Jvm.Cond.laysFinal "AddressHouse$House" "AddressHouse$House" "items" "[LAddressHouse$Item;" ∈ xw0 := List.mem_of_getElem? (i := 135) rfl
theorem k_136 : Jvm.Cond.lays "AddressHouse$House" "AddressHouse$House" "changes" "I" ∈ xw0 := List.mem_of_getElem? (i := 136) rfl
theorem k_137 : Jvm.Cond.laysFinal "AddressHouse$House" "AddressHouse$House" "order" "[I" ∈ xw0 := List.mem_of_getElem? (i := 137) rfl
theorem k_138 : Jvm.Cond.laysFinal "AddressHouse$House" "AddressHouse$House" "secret" "LAddressHouse$Row;" ∈ xw0 := List.mem_of_getElem? (i := 138) rfl
theorem k_139 : Jvm.Cond.laysFinal "AddressHouse$House" "AddressHouse$House" "noBook" "LAddressHouse$Book;" ∈ xw0 := List.mem_of_getElem? (i := 139) rfl
theorem k_140 : Jvm.Cond.laysFinal "AddressHouse$House" "AddressHouse$House" "noItem" "LAddressHouse$Item;" ∈ xw0 := List.mem_of_getElem? (i := 140) rfl
theorem k_141 : Jvm.Cond.laysFinal "AddressHouse$House" "AddressHouse$House" "path" "LAddressHouse$Row;" ∈ xw0 := List.mem_of_getElem? (i := 141) rfl
theorem k_142 : Jvm.Cond.lays "AddressHouse$House" "AddressHouse$House" "kind" "I" ∈ xw0 := List.mem_of_getElem? (i := 142) rfl
theorem k_143 : Jvm.Cond.lays "AddressHouse$House" "AddressHouse$House" "owner" "I" ∈ xw0 := List.mem_of_getElem? (i := 143) rfl
theorem k_144 : Jvm.Cond.lays "AddressHouse$House" "AddressHouse$House" "book" "I" ∈ xw0 := List.mem_of_getElem? (i := 144) rfl
theorem k_145 : Jvm.Cond.lays "AddressHouse$House" "AddressHouse$House" "item" "I" ∈ xw0 := List.mem_of_getElem? (i := 145) rfl
theorem k_146 : Jvm.Cond.lays "AddressHouse$House" "AddressHouse$House" "lastFrom" "I" ∈ xw0 := List.mem_of_getElem? (i := 146) rfl
theorem k_147 : Jvm.Cond.lays "AddressHouse$House" "AddressHouse$House" "lastTo" "I" ∈ xw0 := List.mem_of_getElem? (i := 147) rfl
theorem k_148 : Jvm.Cond.superclass "AddressHouse$House" "java/lang/Object" ∈ xw0 := List.mem_of_getElem? (i := 148) rfl
theorem k_149 : Jvm.Cond.classLink "AddressHouse" (36 : Nat) "AddressHouse$Card" ∈ xw0 := List.mem_of_getElem? (i := 149) rfl
theorem k_150 : Jvm.Cond.instantiable "AddressHouse$Card" (10 : Nat) ∈ xw0 := List.mem_of_getElem? (i := 150) rfl
theorem k_151 : Jvm.Cond.methodLink "AddressHouse" (38 : Nat) ({ cls := "AddressHouse$Card", name := "<init>", desc := "()V" } : Jvm.MethodName) ∈ xw0 := List.mem_of_getElem? (i := 151) rfl
theorem k_152 : Jvm.Cond.instanceMethod ({ cls := "AddressHouse$Card", name := "<init>", desc := "()V" } : Jvm.MethodName) ∈ xw0 := List.mem_of_getElem? (i := 152) rfl
theorem k_153 : Jvm.Cond.code ({ cls := "AddressHouse$Card", name := "<init>", desc := "()V" } : Jvm.MethodName) prog_3_method_1_code (1 : Nat) (Option.none : Option Jvm.ClassFile.FieldType) ∈ xw0 := List.mem_of_getElem? (i := 153) rfl
theorem k_154 : Jvm.Cond.methodLink "AddressHouse$Card" (3 : Nat) ({ cls := "java/lang/Object", name := "<init>", desc := "()V" } : Jvm.MethodName) ∈ xw0 := List.mem_of_getElem? (i := 154) rfl
theorem k_155 : Jvm.Cond.classLink "AddressHouse$Card" (9 : Nat) "AddressHouse$Row" ∈ xw0 := List.mem_of_getElem? (i := 155) rfl
theorem k_156 : Jvm.Cond.methodLink "AddressHouse$Card" (11 : Nat) ({ cls := "AddressHouse$Row", name := "<init>", desc := "(I)V" } : Jvm.MethodName) ∈ xw0 := List.mem_of_getElem? (i := 156) rfl
theorem k_157 : Jvm.Cond.classLink "AddressHouse$Card" (20 : Nat) "[[I" ∈ xw0 := List.mem_of_getElem? (i := 157) rfl
theorem k_158 : Jvm.Cond.fieldLink "AddressHouse$Card" (14 : Nat) "AddressHouse$Card" "text" "LAddressHouse$Row;" ∈ xw0 := List.mem_of_getElem? (i := 158) rfl
theorem k_159 : Jvm.Cond.fieldLink "AddressHouse$Card" (42 : Nat) "AddressHouse$Card" "version" "I" ∈ xw0 := List.mem_of_getElem? (i := 159) rfl
theorem k_160 : Jvm.Cond.fieldLink "AddressHouse$Card" (22 : Nat) "AddressHouse$Card" "properties" "[[I" ∈ xw0 := List.mem_of_getElem? (i := 160) rfl
theorem k_161 : Jvm.Cond.fieldLink "AddressHouse$Card" (46 : Nat) "AddressHouse$Card" "size" "I" ∈ xw0 := List.mem_of_getElem? (i := 161) rfl
theorem k_162 : Jvm.Cond.fieldLink "AddressHouse$Card" (25 : Nat) "AddressHouse$Card" "parameters" "[[I" ∈ xw0 := List.mem_of_getElem? (i := 162) rfl
theorem k_163 : Jvm.Cond.fieldLink "AddressHouse$Card" (49 : Nat) "AddressHouse$Card" "parameterCount" "I" ∈ xw0 := List.mem_of_getElem? (i := 163) rfl
theorem k_164 : Jvm.Cond.fieldLink "AddressHouse$Card" (28 : Nat) "AddressHouse$Card" "valueFrom" "[I" ∈ xw0 := List.mem_of_getElem? (i := 164) rfl
theorem k_165 : Jvm.Cond.fieldLink "AddressHouse$Card" (32 : Nat) "AddressHouse$Card" "valueTo" "[I" ∈ xw0 := List.mem_of_getElem? (i := 165) rfl
theorem k_166 : Jvm.Cond.fieldLink "AddressHouse$Card" (52 : Nat) "AddressHouse$Card" "valueCount" "I" ∈ xw0 := List.mem_of_getElem? (i := 166) rfl
theorem k_167 : Jvm.Cond.fieldLink "AddressHouse$Card" (35 : Nat) "AddressHouse$Card" "tally" "[I" ∈ xw0 := List.mem_of_getElem? (i := 167) rfl
theorem k_168 : Jvm.Cond.laysFinal "AddressHouse$Card" "AddressHouse$Card" "text" "LAddressHouse$Row;" ∈ xw0 := List.mem_of_getElem? (i := 168) rfl
theorem k_169 : Jvm.Cond.lays "AddressHouse$Card" "AddressHouse$Card" "version" "I" ∈ xw0 := List.mem_of_getElem? (i := 169) rfl
theorem k_170 : Jvm.Cond.laysFinal "AddressHouse$Card" "AddressHouse$Card" "properties" "[[I" ∈ xw0 := List.mem_of_getElem? (i := 170) rfl
theorem k_171 : Jvm.Cond.lays "AddressHouse$Card" "AddressHouse$Card" "size" "I" ∈ xw0 := List.mem_of_getElem? (i := 171) rfl
theorem k_172 : Jvm.Cond.laysFinal "AddressHouse$Card" "AddressHouse$Card" "parameters" "[[I" ∈ xw0 := List.mem_of_getElem? (i := 172) rfl
theorem k_173 : Jvm.Cond.lays "AddressHouse$Card" "AddressHouse$Card" "parameterCount" "I" ∈ xw0 := List.mem_of_getElem? (i := 173) rfl
theorem k_174 : Jvm.Cond.laysFinal "AddressHouse$Card" "AddressHouse$Card" "valueFrom" "[I" ∈ xw0 := List.mem_of_getElem? (i := 174) rfl
theorem k_175 : Jvm.Cond.laysFinal "AddressHouse$Card" "AddressHouse$Card" "valueTo" "[I" ∈ xw0 := List.mem_of_getElem? (i := 175) rfl
theorem k_176 : Jvm.Cond.lays "AddressHouse$Card" "AddressHouse$Card" "valueCount" "I" ∈ xw0 := List.mem_of_getElem? (i := 176) rfl
theorem k_177 : Jvm.Cond.laysFinal "AddressHouse$Card" "AddressHouse$Card" "tally" "[I" ∈ xw0 := List.mem_of_getElem? (i := 177) rfl
theorem k_178 : Jvm.Cond.superclass "AddressHouse$Card" "java/lang/Object" ∈ xw0 := List.mem_of_getElem? (i := 178) rfl
theorem k_179 : Jvm.Cond.classLink "AddressHouse" (43 : Nat) "AddressHouse$Xml" ∈ xw0 := List.mem_of_getElem? (i := 179) rfl
theorem k_180 : Jvm.Cond.instantiable "AddressHouse$Xml" (17 : Nat) ∈ xw0 := List.mem_of_getElem? (i := 180) rfl
theorem k_181 : Jvm.Cond.methodLink "AddressHouse" (45 : Nat) ({ cls := "AddressHouse$Xml", name := "<init>", desc := "()V" } : Jvm.MethodName) ∈ xw0 := List.mem_of_getElem? (i := 181) rfl
theorem k_182 : Jvm.Cond.instanceMethod ({ cls := "AddressHouse$Xml", name := "<init>", desc := "()V" } : Jvm.MethodName) ∈ xw0 := List.mem_of_getElem? (i := 182) rfl
theorem k_183 : Jvm.Cond.code ({ cls := "AddressHouse$Xml", name := "<init>", desc := "()V" } : Jvm.MethodName) prog_12_method_1_code (1 : Nat) (Option.none : Option Jvm.ClassFile.FieldType) ∈ xw0 := List.mem_of_getElem? (i := 183) rfl
theorem k_184 : Jvm.Cond.methodLink "AddressHouse$Xml" (3 : Nat) ({ cls := "java/lang/Object", name := "<init>", desc := "()V" } : Jvm.MethodName) ∈ xw0 := List.mem_of_getElem? (i := 184) rfl
theorem k_185 : Jvm.Cond.classLink "AddressHouse$Xml" (11 : Nat) "[[I" ∈ xw0 := List.mem_of_getElem? (i := 185) rfl
theorem k_186 : Jvm.Cond.classLink "AddressHouse$Xml" (21 : Nat) "AddressHouse$Row" ∈ xw0 := List.mem_of_getElem? (i := 186) rfl
theorem k_187 : Jvm.Cond.methodLink "AddressHouse$Xml" (23 : Nat) ({ cls := "AddressHouse$Row", name := "<init>", desc := "(I)V" } : Jvm.MethodName) ∈ xw0 := List.mem_of_getElem? (i := 187) rfl
theorem k_188 : Jvm.Cond.fieldLink "AddressHouse$Xml" (13 : Nat) "AddressHouse$Xml" "elements" "[[I" ∈ xw0 := List.mem_of_getElem? (i := 188) rfl
theorem k_189 : Jvm.Cond.fieldLink "AddressHouse$Xml" (18 : Nat) "AddressHouse$Xml" "attributes" "[[I" ∈ xw0 := List.mem_of_getElem? (i := 189) rfl
theorem k_190 : Jvm.Cond.fieldLink "AddressHouse$Xml" (26 : Nat) "AddressHouse$Xml" "values" "LAddressHouse$Row;" ∈ xw0 := List.mem_of_getElem? (i := 190) rfl
theorem k_191 : Jvm.Cond.fieldLink "AddressHouse$Xml" (30 : Nat) "AddressHouse$Xml" "spaces" "[[I" ∈ xw0 := List.mem_of_getElem? (i := 191) rfl
theorem k_192 : Jvm.Cond.fieldLink "AddressHouse$Xml" (33 : Nat) "AddressHouse$Xml" "bindings" "[[I" ∈ xw0 := List.mem_of_getElem? (i := 192) rfl
theorem k_193 : Jvm.Cond.fieldLink "AddressHouse$Xml" (36 : Nat) "AddressHouse$Xml" "marks" "[I" ∈ xw0 := List.mem_of_getElem? (i := 193) rfl
theorem k_194 : Jvm.Cond.fieldLink "AddressHouse$Xml" (40 : Nat) "AddressHouse$Xml" "stack" "[I" ∈ xw0 := List.mem_of_getElem? (i := 194) rfl
theorem k_195 : Jvm.Cond.fieldLink "AddressHouse$Xml" (43 : Nat) "AddressHouse$Xml" "loose" "LAddressHouse$Row;" ∈ xw0 := List.mem_of_getElem? (i := 195) rfl
theorem k_196 : Jvm.Cond.fieldLink "AddressHouse$Xml" (46 : Nat) "AddressHouse$Xml" "owners" "[I" ∈ xw0 := List.mem_of_getElem? (i := 196) rfl
theorem k_197 : Jvm.Cond.fieldLink "AddressHouse$Xml" (49 : Nat) "AddressHouse$Xml" "texts" "LAddressHouse$Row;" ∈ xw0 := List.mem_of_getElem? (i := 197) rfl
theorem k_198 : Jvm.Cond.fieldLink "AddressHouse$Xml" (52 : Nat) "AddressHouse$Xml" "source" "LAddressHouse$Row;" ∈ xw0 := List.mem_of_getElem? (i := 198) rfl
theorem k_199 : Jvm.Cond.laysFinal "AddressHouse$Xml" "AddressHouse$Xml" "elements" "[[I" ∈ xw0 := List.mem_of_getElem? (i := 199) rfl
theorem k_200 : Jvm.Cond.lays "AddressHouse$Xml" "AddressHouse$Xml" "size" "I" ∈ xw0 := List.mem_of_getElem? (i := 200) rfl
theorem k_201 : Jvm.Cond.laysFinal "AddressHouse$Xml" "AddressHouse$Xml" "attributes" "[[I" ∈ xw0 := List.mem_of_getElem? (i := 201) rfl
theorem k_202 : Jvm.Cond.lays "AddressHouse$Xml" "AddressHouse$Xml" "attributeCount" "I" ∈ xw0 := List.mem_of_getElem? (i := 202) rfl
theorem k_203 : Jvm.Cond.laysFinal "AddressHouse$Xml" "AddressHouse$Xml" "values" "LAddressHouse$Row;" ∈ xw0 := List.mem_of_getElem? (i := 203) rfl
theorem k_204 : Jvm.Cond.laysFinal "AddressHouse$Xml" "AddressHouse$Xml" "spaces" "[[I" ∈ xw0 := List.mem_of_getElem? (i := 204) rfl
theorem k_205 : Jvm.Cond.lays "AddressHouse$Xml" "AddressHouse$Xml" "spaceCount" "I" ∈ xw0 := List.mem_of_getElem? (i := 205) rfl
theorem k_206 : Jvm.Cond.laysFinal "AddressHouse$Xml" "AddressHouse$Xml" "bindings" "[[I" ∈ xw0 := List.mem_of_getElem? (i := 206) rfl
theorem k_207 : Jvm.Cond.lays "AddressHouse$Xml" "AddressHouse$Xml" "bindingCount" "I" ∈ xw0 := List.mem_of_getElem? (i := 207) rfl
theorem k_208 : Jvm.Cond.laysFinal "AddressHouse$Xml" "AddressHouse$Xml" "marks" "[I" ∈ xw0 := List.mem_of_getElem? (i := 208) rfl
theorem k_209 : Jvm.Cond.laysFinal "AddressHouse$Xml" "AddressHouse$Xml" "stack" "[I" ∈ xw0 := List.mem_of_getElem? (i := 209) rfl
theorem k_210 : Jvm.Cond.lays "AddressHouse$Xml" "AddressHouse$Xml" "depth" "I" ∈ xw0 := List.mem_of_getElem? (i := 210) rfl
theorem k_211 : Jvm.Cond.laysFinal "AddressHouse$Xml" "AddressHouse$Xml" "loose" "LAddressHouse$Row;" ∈ xw0 := List.mem_of_getElem? (i := 211) rfl
theorem k_212 : Jvm.Cond.laysFinal "AddressHouse$Xml" "AddressHouse$Xml" "owners" "[I" ∈ xw0 := List.mem_of_getElem? (i := 212) rfl
theorem k_213 : Jvm.Cond.laysFinal "AddressHouse$Xml" "AddressHouse$Xml" "texts" "LAddressHouse$Row;" ∈ xw0 := List.mem_of_getElem? (i := 213) rfl
theorem k_214 : Jvm.Cond.lays "AddressHouse$Xml" "AddressHouse$Xml" "source" "LAddressHouse$Row;" ∈ xw0 := List.mem_of_getElem? (i := 214) rfl
theorem k_215 : Jvm.Cond.lays "AddressHouse$Xml" "AddressHouse$Xml" "pos" "I" ∈ xw0 := List.mem_of_getElem? (i := 215) rfl
theorem k_216 : Jvm.Cond.superclass "AddressHouse$Xml" "java/lang/Object" ∈ xw0 := List.mem_of_getElem? (i := 216) rfl
theorem k_217 : Jvm.Cond.classLink "AddressHouse" (50 : Nat) "AddressHouse$Scribe" ∈ xw0 := List.mem_of_getElem? (i := 217) rfl
theorem k_218 : Jvm.Cond.instantiable "AddressHouse$Scribe" (9 : Nat) ∈ xw0 := List.mem_of_getElem? (i := 218) rfl
theorem k_219 : Jvm.Cond.methodLink "AddressHouse" (52 : Nat) ({ cls := "AddressHouse$Scribe", name := "<init>", desc := "(LAddressHouse$Card;LAddressHouse$Xml;)V" } : Jvm.MethodName) ∈ xw0 := List.mem_of_getElem? (i := 219) rfl
theorem k_220 : Jvm.Cond.instanceMethod ({ cls := "AddressHouse$Scribe", name := "<init>", desc := "(LAddressHouse$Card;LAddressHouse$Xml;)V" } : Jvm.MethodName) ∈ xw0 := List.mem_of_getElem? (i := 220) rfl
theorem k_221 : Jvm.Cond.code ({ cls := "AddressHouse$Scribe", name := "<init>", desc := "(LAddressHouse$Card;LAddressHouse$Xml;)V" } : Jvm.MethodName) prog_10_method_1_code (3 : Nat) (Option.none : Option Jvm.ClassFile.FieldType) ∈ xw0 := List.mem_of_getElem? (i := 221) rfl
theorem k_222 : Jvm.Cond.methodLink "AddressHouse$Scribe" (3 : Nat) ({ cls := "java/lang/Object", name := "<init>", desc := "()V" } : Jvm.MethodName) ∈ xw0 := List.mem_of_getElem? (i := 222) rfl
theorem k_223 : Jvm.Cond.classLink "AddressHouse$Scribe" (19 : Nat) "AddressHouse$Row" ∈ xw0 := List.mem_of_getElem? (i := 223) rfl
theorem k_224 : Jvm.Cond.methodLink "AddressHouse$Scribe" (21 : Nat) ({ cls := "AddressHouse$Row", name := "<init>", desc := "(I)V" } : Jvm.MethodName) ∈ xw0 := List.mem_of_getElem? (i := 224) rfl
theorem k_225 : Jvm.Cond.fieldLink "AddressHouse$Scribe" (9 : Nat) "AddressHouse$Scribe" "card" "LAddressHouse$Card;" ∈ xw0 := List.mem_of_getElem? (i := 225) rfl
theorem k_226 : Jvm.Cond.fieldLink "AddressHouse$Scribe" (15 : Nat) "AddressHouse$Scribe" "xml" "LAddressHouse$Xml;" ∈ xw0 := List.mem_of_getElem? (i := 226) rfl
theorem k_227 : Jvm.Cond.fieldLink "AddressHouse$Scribe" (24 : Nat) "AddressHouse$Scribe" "line" "LAddressHouse$Row;" ∈ xw0 := List.mem_of_getElem? (i := 227) rfl
theorem k_228 : Jvm.Cond.fieldLink "AddressHouse$Scribe" (28 : Nat) "AddressHouse$Scribe" "part" "LAddressHouse$Row;" ∈ xw0 := List.mem_of_getElem? (i := 228) rfl
theorem k_229 : Jvm.Cond.fieldLink "AddressHouse$Scribe" (31 : Nat) "AddressHouse$Scribe" "picker" "I" ∈ xw0 := List.mem_of_getElem? (i := 229) rfl
theorem k_230 : Jvm.Cond.laysFinal "AddressHouse$Scribe" "AddressHouse$Scribe" "card" "LAddressHouse$Card;" ∈ xw0 := List.mem_of_getElem? (i := 230) rfl
theorem k_231 : Jvm.Cond.laysFinal "AddressHouse$Scribe" "AddressHouse$Scribe" "xml" "LAddressHouse$Xml;" ∈ xw0 := List.mem_of_getElem? (i := 231) rfl
theorem k_232 : Jvm.Cond.laysFinal "AddressHouse$Scribe" "AddressHouse$Scribe" "line" "LAddressHouse$Row;" ∈ xw0 := List.mem_of_getElem? (i := 232) rfl
theorem k_233 : Jvm.Cond.laysFinal "AddressHouse$Scribe" "AddressHouse$Scribe" "part" "LAddressHouse$Row;" ∈ xw0 := List.mem_of_getElem? (i := 233) rfl
theorem k_234 : Jvm.Cond.lays "AddressHouse$Scribe" "AddressHouse$Scribe" "page" "LAddressHouse$Row;" ∈ xw0 := List.mem_of_getElem? (i := 234) rfl
theorem k_235 : Jvm.Cond.lays "AddressHouse$Scribe" "AddressHouse$Scribe" "picker" "I" ∈ xw0 := List.mem_of_getElem? (i := 235) rfl
theorem k_236 : Jvm.Cond.lays "AddressHouse$Scribe" "AddressHouse$Scribe" "choosy" "Z" ∈ xw0 := List.mem_of_getElem? (i := 236) rfl
theorem k_237 : Jvm.Cond.lays "AddressHouse$Scribe" "AddressHouse$Scribe" "nameEnd" "I" ∈ xw0 := List.mem_of_getElem? (i := 237) rfl
theorem k_238 : Jvm.Cond.lays "AddressHouse$Scribe" "AddressHouse$Scribe" "valueStart" "I" ∈ xw0 := List.mem_of_getElem? (i := 238) rfl
theorem k_239 : Jvm.Cond.superclass "AddressHouse$Scribe" "java/lang/Object" ∈ xw0 := List.mem_of_getElem? (i := 239) rfl
theorem k_240 : Jvm.Cond.classLink "AddressHouse" (59 : Nat) "AddressHouse$Listing" ∈ xw0 := List.mem_of_getElem? (i := 240) rfl
theorem k_241 : Jvm.Cond.instantiable "AddressHouse$Listing" (16 : Nat) ∈ xw0 := List.mem_of_getElem? (i := 241) rfl
theorem k_242 : Jvm.Cond.constant "AddressHouse" (61 : Nat) (60100 : Int32) ∈ xw0 := List.mem_of_getElem? (i := 242) rfl
theorem k_243 : Jvm.Cond.methodLink "AddressHouse" (62 : Nat) ({ cls := "AddressHouse$Listing", name := "<init>", desc := "(LAddressHouse$House;LAddressHouse$Xml;LAddressHouse$Row;)V" } : Jvm.MethodName) ∈ xw0 := List.mem_of_getElem? (i := 243) rfl
theorem k_244 : Jvm.Cond.instanceMethod ({ cls := "AddressHouse$Listing", name := "<init>", desc := "(LAddressHouse$House;LAddressHouse$Xml;LAddressHouse$Row;)V" } : Jvm.MethodName) ∈ xw0 := List.mem_of_getElem? (i := 244) rfl
theorem k_245 : Jvm.Cond.code ({ cls := "AddressHouse$Listing", name := "<init>", desc := "(LAddressHouse$House;LAddressHouse$Xml;LAddressHouse$Row;)V" } : Jvm.MethodName) prog_8_method_1_code (4 : Nat) (Option.none : Option Jvm.ClassFile.FieldType) ∈ xw0 := List.mem_of_getElem? (i := 245) rfl
theorem k_246 : Jvm.Cond.methodLink "AddressHouse$Listing" (3 : Nat) ({ cls := "java/lang/Object", name := "<init>", desc := "()V" } : Jvm.MethodName) ∈ xw0 := List.mem_of_getElem? (i := 246) rfl
theorem k_247 : Jvm.Cond.classLink "AddressHouse$Listing" (23 : Nat) "AddressHouse$Row" ∈ xw0 := List.mem_of_getElem? (i := 247) rfl
theorem k_248 : Jvm.Cond.methodLink "AddressHouse$Listing" (27 : Nat) ({ cls := "AddressHouse$Row", name := "<init>", desc := "(I)V" } : Jvm.MethodName) ∈ xw0 := List.mem_of_getElem? (i := 248) rfl
theorem k_249 : Jvm.Cond.fieldLink "AddressHouse$Listing" (19 : Nat) "AddressHouse$Listing" "body" "LAddressHouse$Row;" ∈ xw0 := List.mem_of_getElem? (i := 249) rfl
theorem k_250 : Jvm.Cond.fieldLink "AddressHouse$Listing" (30 : Nat) "AddressHouse$Listing" "data" "LAddressHouse$Row;" ∈ xw0 := List.mem_of_getElem? (i := 250) rfl
theorem k_251 : Jvm.Cond.fieldLink "AddressHouse$Listing" (33 : Nat) "AddressHouse$Listing" "asked" "[I" ∈ xw0 := List.mem_of_getElem? (i := 251) rfl
theorem k_252 : Jvm.Cond.fieldLink "AddressHouse$Listing" (37 : Nat) "AddressHouse$Listing" "codes" "[I" ∈ xw0 := List.mem_of_getElem? (i := 252) rfl
theorem k_253 : Jvm.Cond.fieldLink "AddressHouse$Listing" (40 : Nat) "AddressHouse$Listing" "kinds" "[I" ∈ xw0 := List.mem_of_getElem? (i := 253) rfl
theorem k_254 : Jvm.Cond.fieldLink "AddressHouse$Listing" (43 : Nat) "AddressHouse$Listing" "indexes" "[I" ∈ xw0 := List.mem_of_getElem? (i := 254) rfl
theorem k_255 : Jvm.Cond.fieldLink "AddressHouse$Listing" (46 : Nat) "AddressHouse$Listing" "statuses" "[I" ∈ xw0 := List.mem_of_getElem? (i := 255) rfl
theorem k_256 : Jvm.Cond.fieldLink "AddressHouse$Listing" (9 : Nat) "AddressHouse$Listing" "house" "LAddressHouse$House;" ∈ xw0 := List.mem_of_getElem? (i := 256) rfl
theorem k_257 : Jvm.Cond.fieldLink "AddressHouse$Listing" (15 : Nat) "AddressHouse$Listing" "xml" "LAddressHouse$Xml;" ∈ xw0 := List.mem_of_getElem? (i := 257) rfl
theorem k_258 : Jvm.Cond.fieldLink "AddressHouse$Listing" (51 : Nat) "AddressHouse$Listing" "name" "LAddressHouse$Row;" ∈ xw0 := List.mem_of_getElem? (i := 258) rfl
theorem k_259 : Jvm.Cond.laysFinal "AddressHouse$Listing" "AddressHouse$Listing" "body" "LAddressHouse$Row;" ∈ xw0 := List.mem_of_getElem? (i := 259) rfl
theorem k_260 : Jvm.Cond.laysFinal "AddressHouse$Listing" "AddressHouse$Listing" "data" "LAddressHouse$Row;" ∈ xw0 := List.mem_of_getElem? (i := 260) rfl
theorem k_261 : Jvm.Cond.lays "AddressHouse$Listing" "AddressHouse$Listing" "user" "I" ∈ xw0 := List.mem_of_getElem? (i := 261) rfl
theorem k_262 : Jvm.Cond.lays "AddressHouse$Listing" "AddressHouse$Listing" "book" "I" ∈ xw0 := List.mem_of_getElem? (i := 262) rfl
theorem k_263 : Jvm.Cond.lays "AddressHouse$Listing" "AddressHouse$Listing" "mode" "I" ∈ xw0 := List.mem_of_getElem? (i := 263) rfl
theorem k_264 : Jvm.Cond.laysFinal "AddressHouse$Listing" "AddressHouse$Listing" "asked" "[I" ∈ xw0 := List.mem_of_getElem? (i := 264) rfl
theorem k_265 : Jvm.Cond.laysFinal "AddressHouse$Listing" "AddressHouse$Listing" "codes" "[I" ∈ xw0 := List.mem_of_getElem? (i := 265) rfl
theorem k_266 : Jvm.Cond.lays "AddressHouse$Listing" "AddressHouse$Listing" "askedCount" "I" ∈ xw0 := List.mem_of_getElem? (i := 266) rfl
theorem k_267 : Jvm.Cond.lays "AddressHouse$Listing" "AddressHouse$Listing" "dataElement" "I" ∈ xw0 := List.mem_of_getElem? (i := 267) rfl
theorem k_268 : Jvm.Cond.laysFinal "AddressHouse$Listing" "AddressHouse$Listing" "kinds" "[I" ∈ xw0 := List.mem_of_getElem? (i := 268) rfl
theorem k_269 : Jvm.Cond.laysFinal "AddressHouse$Listing" "AddressHouse$Listing" "indexes" "[I" ∈ xw0 := List.mem_of_getElem? (i := 269) rfl
theorem k_270 : Jvm.Cond.laysFinal "AddressHouse$Listing" "AddressHouse$Listing" "statuses" "[I" ∈ xw0 := List.mem_of_getElem? (i := 270) rfl
theorem k_271 : Jvm.Cond.lays "AddressHouse$Listing" "AddressHouse$Listing" "entryCount" "I" ∈ xw0 := List.mem_of_getElem? (i := 271) rfl
theorem k_272 : Jvm.Cond.laysFinal "AddressHouse$Listing" "AddressHouse$Listing" "house" "LAddressHouse$House;" ∈ xw0 := List.mem_of_getElem? (i := 272) rfl
theorem k_273 : Jvm.Cond.laysFinal "AddressHouse$Listing" "AddressHouse$Listing" "xml" "LAddressHouse$Xml;" ∈ xw0 := List.mem_of_getElem? (i := 273) rfl
theorem k_274 : Jvm.Cond.laysFinal "AddressHouse$Listing" "AddressHouse$Listing" "name" "LAddressHouse$Row;" ∈ xw0 := List.mem_of_getElem? (i := 274) rfl
theorem k_275 : Jvm.Cond.superclass "AddressHouse$Listing" "java/lang/Object" ∈ xw0 := List.mem_of_getElem? (i := 275) rfl
theorem k_276 : Jvm.Cond.classLink "AddressHouse" (69 : Nat) "AddressHouse$Clerk" ∈ xw0 := List.mem_of_getElem? (i := 276) rfl
theorem k_277 : Jvm.Cond.instantiable "AddressHouse$Clerk" (18 : Nat) ∈ xw0 := List.mem_of_getElem? (i := 277) rfl
theorem k_278 : Jvm.Cond.methodLink "AddressHouse" (71 : Nat) ({ cls := "AddressHouse$Clerk", name := "<init>", desc := "(LAddressHouse$House;LAddressHouse$Listing;LAddressHouse$Card;LAddressHouse$Xml;)V" } : Jvm.MethodName) ∈ xw0 := List.mem_of_getElem? (i := 278) rfl
theorem k_279 : Jvm.Cond.instanceMethod ({ cls := "AddressHouse$Clerk", name := "<init>", desc := "(LAddressHouse$House;LAddressHouse$Listing;LAddressHouse$Card;LAddressHouse$Xml;)V" } : Jvm.MethodName) ∈ xw0 := List.mem_of_getElem? (i := 279) rfl
theorem k_280 : Jvm.Cond.code ({ cls := "AddressHouse$Clerk", name := "<init>", desc := "(LAddressHouse$House;LAddressHouse$Listing;LAddressHouse$Card;LAddressHouse$Xml;)V" } : Jvm.MethodName) prog_4_method_1_code (5 : Nat) (Option.none : Option Jvm.ClassFile.FieldType) ∈ xw0 := List.mem_of_getElem? (i := 280) rfl
theorem k_281 : Jvm.Cond.methodLink "AddressHouse$Clerk" (5 : Nat) ({ cls := "java/lang/Object", name := "<init>", desc := "()V" } : Jvm.MethodName) ∈ xw0 := List.mem_of_getElem? (i := 281) rfl
theorem k_282 : Jvm.Cond.classLink "AddressHouse$Clerk" (27 : Nat) "AddressHouse$Filter" ∈ xw0 := List.mem_of_getElem? (i := 282) rfl
theorem k_283 : Jvm.Cond.instantiable "AddressHouse$Filter" (9 : Nat) ∈ xw0 := List.mem_of_getElem? (i := 283) rfl
theorem k_284 : Jvm.Cond.methodLink "AddressHouse$Clerk" (29 : Nat) ({ cls := "AddressHouse$Filter", name := "<init>", desc := "(LAddressHouse$Xml;LAddressHouse$Card;)V" } : Jvm.MethodName) ∈ xw0 := List.mem_of_getElem? (i := 284) rfl
theorem k_285 : Jvm.Cond.instanceMethod ({ cls := "AddressHouse$Filter", name := "<init>", desc := "(LAddressHouse$Xml;LAddressHouse$Card;)V" } : Jvm.MethodName) ∈ xw0 := List.mem_of_getElem? (i := 285) rfl
theorem k_286 : Jvm.Cond.code ({ cls := "AddressHouse$Filter", name := "<init>", desc := "(LAddressHouse$Xml;LAddressHouse$Card;)V" } : Jvm.MethodName) prog_5_method_1_code (3 : Nat) (Option.none : Option Jvm.ClassFile.FieldType) ∈ xw0 := List.mem_of_getElem? (i := 286) rfl
theorem k_287 : Jvm.Cond.methodLink "AddressHouse$Filter" (3 : Nat) ({ cls := "java/lang/Object", name := "<init>", desc := "()V" } : Jvm.MethodName) ∈ xw0 := List.mem_of_getElem? (i := 287) rfl
theorem k_288 : Jvm.Cond.classLink "AddressHouse$Filter" (21 : Nat) "[[I" ∈ xw0 := List.mem_of_getElem? (i := 288) rfl
theorem k_289 : Jvm.Cond.classLink "AddressHouse$Filter" (29 : Nat) "AddressHouse$Row" ∈ xw0 := List.mem_of_getElem? (i := 289) rfl
theorem k_290 : Jvm.Cond.methodLink "AddressHouse$Filter" (33 : Nat) ({ cls := "AddressHouse$Row", name := "<init>", desc := "(I)V" } : Jvm.MethodName) ∈ xw0 := List.mem_of_getElem? (i := 290) rfl
theorem k_291 : Jvm.Cond.fieldLink "AddressHouse$Filter" (9 : Nat) "AddressHouse$Filter" "xml" "LAddressHouse$Xml;" ∈ xw0 := List.mem_of_getElem? (i := 291) rfl
theorem k_292 : Jvm.Cond.fieldLink "AddressHouse$Filter" (15 : Nat) "AddressHouse$Filter" "card" "LAddressHouse$Card;" ∈ xw0 := List.mem_of_getElem? (i := 292) rfl
theorem k_293 : Jvm.Cond.fieldLink "AddressHouse$Filter" (23 : Nat) "AddressHouse$Filter" "filters" "[[I" ∈ xw0 := List.mem_of_getElem? (i := 293) rfl
theorem k_294 : Jvm.Cond.fieldLink "AddressHouse$Filter" (26 : Nat) "AddressHouse$Filter" "tests" "[[I" ∈ xw0 := List.mem_of_getElem? (i := 294) rfl
theorem k_295 : Jvm.Cond.fieldLink "AddressHouse$Filter" (36 : Nat) "AddressHouse$Filter" "needles" "LAddressHouse$Row;" ∈ xw0 := List.mem_of_getElem? (i := 295) rfl
theorem k_296 : Jvm.Cond.fieldLink "AddressHouse$Filter" (40 : Nat) "AddressHouse$Filter" "value" "LAddressHouse$Row;" ∈ xw0 := List.mem_of_getElem? (i := 296) rfl
theorem k_297 : Jvm.Cond.laysFinal "AddressHouse$Filter" "AddressHouse$Filter" "xml" "LAddressHouse$Xml;" ∈ xw0 := List.mem_of_getElem? (i := 297) rfl
theorem k_298 : Jvm.Cond.laysFinal "AddressHouse$Filter" "AddressHouse$Filter" "card" "LAddressHouse$Card;" ∈ xw0 := List.mem_of_getElem? (i := 298) rfl
theorem k_299 : Jvm.Cond.laysFinal "AddressHouse$Filter" "AddressHouse$Filter" "filters" "[[I" ∈ xw0 := List.mem_of_getElem? (i := 299) rfl
theorem k_300 : Jvm.Cond.lays "AddressHouse$Filter" "AddressHouse$Filter" "filterCount" "I" ∈ xw0 := List.mem_of_getElem? (i := 300) rfl
theorem k_301 : Jvm.Cond.laysFinal "AddressHouse$Filter" "AddressHouse$Filter" "tests" "[[I" ∈ xw0 := List.mem_of_getElem? (i := 301) rfl
theorem k_302 : Jvm.Cond.lays "AddressHouse$Filter" "AddressHouse$Filter" "testCount" "I" ∈ xw0 := List.mem_of_getElem? (i := 302) rfl
theorem k_303 : Jvm.Cond.lays "AddressHouse$Filter" "AddressHouse$Filter" "all" "Z" ∈ xw0 := List.mem_of_getElem? (i := 303) rfl
theorem k_304 : Jvm.Cond.laysFinal "AddressHouse$Filter" "AddressHouse$Filter" "needles" "LAddressHouse$Row;" ∈ xw0 := List.mem_of_getElem? (i := 304) rfl
theorem k_305 : Jvm.Cond.laysFinal "AddressHouse$Filter" "AddressHouse$Filter" "value" "LAddressHouse$Row;" ∈ xw0 := List.mem_of_getElem? (i := 305) rfl
theorem k_306 : Jvm.Cond.superclass "AddressHouse$Filter" "java/lang/Object" ∈ xw0 := List.mem_of_getElem? (i := 306) rfl
theorem k_307 : Jvm.Cond.classLink "AddressHouse$Clerk" (36 : Nat) "AddressHouse$Row" ∈ xw0 := List.mem_of_getElem? (i := 307) rfl
theorem k_308 : Jvm.Cond.methodLink "AddressHouse$Clerk" (38 : Nat) ({ cls := "AddressHouse$Row", name := "<init>", desc := "(I)V" } : Jvm.MethodName) ∈ xw0 := List.mem_of_getElem? (i := 308) rfl
theorem k_309 : Jvm.Cond.fieldLink "AddressHouse$Clerk" (11 : Nat) "AddressHouse$Clerk" "house" "LAddressHouse$House;" ∈ xw0 := List.mem_of_getElem? (i := 309) rfl
theorem k_310 : Jvm.Cond.fieldLink "AddressHouse$Clerk" (15 : Nat) "AddressHouse$Clerk" "listing" "LAddressHouse$Listing;" ∈ xw0 := List.mem_of_getElem? (i := 310) rfl
theorem k_311 : Jvm.Cond.fieldLink "AddressHouse$Clerk" (19 : Nat) "AddressHouse$Clerk" "card" "LAddressHouse$Card;" ∈ xw0 := List.mem_of_getElem? (i := 311) rfl
theorem k_312 : Jvm.Cond.fieldLink "AddressHouse$Clerk" (23 : Nat) "AddressHouse$Clerk" "xml" "LAddressHouse$Xml;" ∈ xw0 := List.mem_of_getElem? (i := 312) rfl
theorem k_313 : Jvm.Cond.fieldLink "AddressHouse$Clerk" (32 : Nat) "AddressHouse$Clerk" "filter" "LAddressHouse$Filter;" ∈ xw0 := List.mem_of_getElem? (i := 313) rfl
theorem k_314 : Jvm.Cond.fieldLink "AddressHouse$Clerk" (41 : Nat) "AddressHouse$Clerk" "told" "LAddressHouse$Row;" ∈ xw0 := List.mem_of_getElem? (i := 314) rfl
theorem k_315 : Jvm.Cond.fieldLink "AddressHouse$Clerk" (47 : Nat) "AddressHouse$Clerk" "plain" "LAddressHouse$Row;" ∈ xw0 := List.mem_of_getElem? (i := 315) rfl
theorem k_316 : Jvm.Cond.lays "AddressHouse$Clerk" "AddressHouse$Clerk" "xmlRight" "Z" ∈ xw0 := List.mem_of_getElem? (i := 316) rfl
theorem k_317 : Jvm.Cond.lays "AddressHouse$Clerk" "AddressHouse$Clerk" "status" "I" ∈ xw0 := List.mem_of_getElem? (i := 317) rfl
theorem k_318 : Jvm.Cond.lays "AddressHouse$Clerk" "AddressHouse$Clerk" "page" "LAddressHouse$Row;" ∈ xw0 := List.mem_of_getElem? (i := 318) rfl
theorem k_319 : Jvm.Cond.lays "AddressHouse$Clerk" "AddressHouse$Clerk" "version" "I" ∈ xw0 := List.mem_of_getElem? (i := 319) rfl
theorem k_320 : Jvm.Cond.laysFinal "AddressHouse$Clerk" "AddressHouse$Clerk" "house" "LAddressHouse$House;" ∈ xw0 := List.mem_of_getElem? (i := 320) rfl
theorem k_321 : Jvm.Cond.laysFinal "AddressHouse$Clerk" "AddressHouse$Clerk" "listing" "LAddressHouse$Listing;" ∈ xw0 := List.mem_of_getElem? (i := 321) rfl
theorem k_322 : Jvm.Cond.laysFinal "AddressHouse$Clerk" "AddressHouse$Clerk" "card" "LAddressHouse$Card;" ∈ xw0 := List.mem_of_getElem? (i := 322) rfl
theorem k_323 : Jvm.Cond.laysFinal "AddressHouse$Clerk" "AddressHouse$Clerk" "xml" "LAddressHouse$Xml;" ∈ xw0 := List.mem_of_getElem? (i := 323) rfl
theorem k_324 : Jvm.Cond.laysFinal "AddressHouse$Clerk" "AddressHouse$Clerk" "filter" "LAddressHouse$Filter;" ∈ xw0 := List.mem_of_getElem? (i := 324) rfl
theorem k_325 : Jvm.Cond.laysFinal "AddressHouse$Clerk" "AddressHouse$Clerk" "told" "LAddressHouse$Row;" ∈ xw0 := List.mem_of_getElem? (i := 325) rfl
theorem k_326 : Jvm.Cond.laysFinal "AddressHouse$Clerk" "AddressHouse$Clerk" "plain" "LAddressHouse$Row;" ∈ xw0 := List.mem_of_getElem? (i := 326) rfl
theorem k_327 : Jvm.Cond.lays "AddressHouse$Clerk" "AddressHouse$Clerk" "wire" "LAddressHouse$Wire;" ∈ xw0 := List.mem_of_getElem? (i := 327) rfl
theorem k_328 : Jvm.Cond.lays "AddressHouse$Clerk" "AddressHouse$Clerk" "closing" "Z" ∈ xw0 := List.mem_of_getElem? (i := 328) rfl
theorem k_329 : Jvm.Cond.lays "AddressHouse$Clerk" "AddressHouse$Clerk" "type" "I" ∈ xw0 := List.mem_of_getElem? (i := 329) rfl
theorem k_330 : Jvm.Cond.lays "AddressHouse$Clerk" "AddressHouse$Clerk" "method" "I" ∈ xw0 := List.mem_of_getElem? (i := 330) rfl
theorem k_331 : Jvm.Cond.lays "AddressHouse$Clerk" "AddressHouse$Clerk" "user" "I" ∈ xw0 := List.mem_of_getElem? (i := 331) rfl
theorem k_332 : Jvm.Cond.lays "AddressHouse$Clerk" "AddressHouse$Clerk" "querying" "Z" ∈ xw0 := List.mem_of_getElem? (i := 332) rfl
theorem k_333 : Jvm.Cond.lays "AddressHouse$Clerk" "AddressHouse$Clerk" "tail" "I" ∈ xw0 := List.mem_of_getElem? (i := 333) rfl
theorem k_334 : Jvm.Cond.superclass "AddressHouse$Clerk" "java/lang/Object" ∈ xw0 := List.mem_of_getElem? (i := 334) rfl
theorem k_335 : Jvm.Cond.fieldLink "AddressHouse" (14 : Nat) "AddressHouse" "tape" "LAddressHouse$Row;" ∈ xw0 := List.mem_of_getElem? (i := 335) rfl
theorem k_336 : Jvm.Cond.fieldLink "AddressHouse" (19 : Nat) "AddressHouse" "answers" "LAddressHouse$Row;" ∈ xw0 := List.mem_of_getElem? (i := 336) rfl
theorem k_337 : Jvm.Cond.fieldLink "AddressHouse" (24 : Nat) "AddressHouse" "wires" "[LAddressHouse$Wire;" ∈ xw0 := List.mem_of_getElem? (i := 337) rfl
theorem k_338 : Jvm.Cond.fieldLink "AddressHouse" (32 : Nat) "AddressHouse" "house" "LAddressHouse$House;" ∈ xw0 := List.mem_of_getElem? (i := 338) rfl
theorem k_339 : Jvm.Cond.fieldLink "AddressHouse" (39 : Nat) "AddressHouse" "card" "LAddressHouse$Card;" ∈ xw0 := List.mem_of_getElem? (i := 339) rfl
theorem k_340 : Jvm.Cond.fieldLink "AddressHouse" (55 : Nat) "AddressHouse" "scribe" "LAddressHouse$Scribe;" ∈ xw0 := List.mem_of_getElem? (i := 340) rfl
theorem k_341 : Jvm.Cond.fieldLink "AddressHouse" (46 : Nat) "AddressHouse" "xml" "LAddressHouse$Xml;" ∈ xw0 := List.mem_of_getElem? (i := 341) rfl
theorem k_342 : Jvm.Cond.fieldLink "AddressHouse" (65 : Nat) "AddressHouse" "listing" "LAddressHouse$Listing;" ∈ xw0 := List.mem_of_getElem? (i := 342) rfl
theorem k_343 : Jvm.Cond.fieldLink "AddressHouse" (74 : Nat) "AddressHouse" "clerk" "LAddressHouse$Clerk;" ∈ xw0 := List.mem_of_getElem? (i := 343) rfl
theorem k_344 : Jvm.Cond.laysFinal "AddressHouse" "AddressHouse" "tape" "LAddressHouse$Row;" ∈ xw0 := List.mem_of_getElem? (i := 344) rfl
theorem k_345 : Jvm.Cond.laysFinal "AddressHouse" "AddressHouse" "answers" "LAddressHouse$Row;" ∈ xw0 := List.mem_of_getElem? (i := 345) rfl
theorem k_346 : Jvm.Cond.laysFinal "AddressHouse" "AddressHouse" "wires" "[LAddressHouse$Wire;" ∈ xw0 := List.mem_of_getElem? (i := 346) rfl
theorem k_347 : Jvm.Cond.laysFinal "AddressHouse" "AddressHouse" "house" "LAddressHouse$House;" ∈ xw0 := List.mem_of_getElem? (i := 347) rfl
theorem k_348 : Jvm.Cond.laysFinal "AddressHouse" "AddressHouse" "card" "LAddressHouse$Card;" ∈ xw0 := List.mem_of_getElem? (i := 348) rfl
theorem k_349 : Jvm.Cond.laysFinal "AddressHouse" "AddressHouse" "scribe" "LAddressHouse$Scribe;" ∈ xw0 := List.mem_of_getElem? (i := 349) rfl
theorem k_350 : Jvm.Cond.laysFinal "AddressHouse" "AddressHouse" "xml" "LAddressHouse$Xml;" ∈ xw0 := List.mem_of_getElem? (i := 350) rfl
theorem k_351 : Jvm.Cond.laysFinal "AddressHouse" "AddressHouse" "listing" "LAddressHouse$Listing;" ∈ xw0 := List.mem_of_getElem? (i := 351) rfl
theorem k_352 : Jvm.Cond.laysFinal "AddressHouse" "AddressHouse" "clerk" "LAddressHouse$Clerk;" ∈ xw0 := List.mem_of_getElem? (i := 352) rfl
theorem k_353 : Jvm.Cond.superclass "AddressHouse" "java/lang/Object" ∈ xw0 := List.mem_of_getElem? (i := 353) rfl
theorem k_354 : Jvm.Cond.instanceMethod ({ cls := "AddressHouse", name := "feed", desc := "(IIIII)Z" } : Jvm.MethodName) ∈ xw0 := List.mem_of_getElem? (i := 354) rfl
theorem k_355 : Jvm.Cond.selects "AddressHouse" ({ cls := "AddressHouse", name := "feed", desc := "(IIIII)Z" } : Jvm.MethodName) ({ cls := "AddressHouse", name := "feed", desc := "(IIIII)Z" } : Jvm.MethodName) ∈ xw0 := List.mem_of_getElem? (i := 355) rfl
theorem k_356 : Jvm.Cond.code ({ cls := "AddressHouse", name := "feed", desc := "(IIIII)Z" } : Jvm.MethodName) prog_1_method_2_code (6 : Nat) (Option.some Jvm.ClassFile.FieldType.boolean) ∈ xw0 := List.mem_of_getElem? (i := 356) rfl
theorem k_357 : Jvm.Cond.methodLink "AddressHouse" (82 : Nat) ({ cls := "AddressHouse$Row", name := "four", desc := "(I)V" } : Jvm.MethodName) ∈ xw0 := List.mem_of_getElem? (i := 357) rfl
theorem k_358 : Jvm.Cond.instanceMethod ({ cls := "AddressHouse$Row", name := "four", desc := "(I)V" } : Jvm.MethodName) ∈ xw0 := List.mem_of_getElem? (i := 358) rfl
theorem k_359 : Jvm.Cond.selects "AddressHouse$Row" ({ cls := "AddressHouse$Row", name := "four", desc := "(I)V" } : Jvm.MethodName) ({ cls := "AddressHouse$Row", name := "four", desc := "(I)V" } : Jvm.MethodName) ∈ xw0 := List.mem_of_getElem? (i := 359) rfl
theorem k_360 : Jvm.Cond.code ({ cls := "AddressHouse$Row", name := "four", desc := "(I)V" } : Jvm.MethodName) prog_9_method_6_code (2 : Nat) (Option.none : Option Jvm.ClassFile.FieldType) ∈ xw0 := List.mem_of_getElem? (i := 360) rfl
theorem k_361 : Jvm.Cond.methodLink "AddressHouse$Row" (23 : Nat) ({ cls := "AddressHouse$Row", name := "put", desc := "(I)V" } : Jvm.MethodName) ∈ xw0 := List.mem_of_getElem? (i := 361) rfl
theorem k_362 : Jvm.Cond.instanceMethod ({ cls := "AddressHouse$Row", name := "put", desc := "(I)V" } : Jvm.MethodName) ∈ xw0 := List.mem_of_getElem? (i := 362) rfl
theorem k_363 : Jvm.Cond.selects "AddressHouse$Row" ({ cls := "AddressHouse$Row", name := "put", desc := "(I)V" } : Jvm.MethodName) ({ cls := "AddressHouse$Row", name := "put", desc := "(I)V" } : Jvm.MethodName) ∈ xw0 := List.mem_of_getElem? (i := 363) rfl
theorem k_364 : Jvm.Cond.code ({ cls := "AddressHouse$Row", name := "put", desc := "(I)V" } : Jvm.MethodName) prog_9_method_5_code (2 : Nat) (Option.none : Option Jvm.ClassFile.FieldType) ∈ xw0 := List.mem_of_getElem? (i := 364) rfl
theorem k_365 : Jvm.Cond.instanceMethod ({ cls := "AddressHouse", name := "end", desc := "(I)Z" } : Jvm.MethodName) ∈ xw0 := List.mem_of_getElem? (i := 365) rfl
theorem k_366 : Jvm.Cond.selects "AddressHouse" ({ cls := "AddressHouse", name := "end", desc := "(I)Z" } : Jvm.MethodName) ({ cls := "AddressHouse", name := "end", desc := "(I)Z" } : Jvm.MethodName) ∈ xw0 := List.mem_of_getElem? (i := 366) rfl
theorem k_367 : Jvm.Cond.code ({ cls := "AddressHouse", name := "end", desc := "(I)Z" } : Jvm.MethodName) prog_1_method_3_code (2 : Nat) (Option.some Jvm.ClassFile.FieldType.boolean) ∈ xw0 := List.mem_of_getElem? (i := 367) rfl
theorem k_368 : Jvm.Cond.methodLink "AddressHouse" (85 : Nat) ({ cls := "AddressHouse$Row", name := "cutTo", desc := "(I)V" } : Jvm.MethodName) ∈ xw0 := List.mem_of_getElem? (i := 368) rfl
theorem k_369 : Jvm.Cond.instanceMethod ({ cls := "AddressHouse$Row", name := "cutTo", desc := "(I)V" } : Jvm.MethodName) ∈ xw0 := List.mem_of_getElem? (i := 369) rfl
theorem k_370 : Jvm.Cond.selects "AddressHouse$Row" ({ cls := "AddressHouse$Row", name := "cutTo", desc := "(I)V" } : Jvm.MethodName) ({ cls := "AddressHouse$Row", name := "cutTo", desc := "(I)V" } : Jvm.MethodName) ∈ xw0 := List.mem_of_getElem? (i := 370) rfl
theorem k_371 : Jvm.Cond.code ({ cls := "AddressHouse$Row", name := "cutTo", desc := "(I)V" } : Jvm.MethodName) prog_9_method_3_code (2 : Nat) (Option.none : Option Jvm.ClassFile.FieldType) ∈ xw0 := List.mem_of_getElem? (i := 371) rfl
theorem k_372 : Jvm.Cond.instanceMethod ({ cls := "AddressHouse", name := "user", desc := "()I" } : Jvm.MethodName) ∈ xw0 := List.mem_of_getElem? (i := 372) rfl
theorem k_373 : Jvm.Cond.selects "AddressHouse" ({ cls := "AddressHouse", name := "user", desc := "()I" } : Jvm.MethodName) ({ cls := "AddressHouse", name := "user", desc := "()I" } : Jvm.MethodName) ∈ xw0 := List.mem_of_getElem? (i := 373) rfl
theorem k_374 : Jvm.Cond.code ({ cls := "AddressHouse", name := "user", desc := "()I" } : Jvm.MethodName) prog_1_method_4_code (2 : Nat) (Option.some Jvm.ClassFile.FieldType.int) ∈ xw0 := List.mem_of_getElem? (i := 374) rfl
theorem k_375 : Jvm.Cond.methodLink "AddressHouse" (88 : Nat) ({ cls := "AddressHouse$House", name := "addUser", desc := "(LAddressHouse$Row;)I" } : Jvm.MethodName) ∈ xw0 := List.mem_of_getElem? (i := 375) rfl
theorem k_376 : Jvm.Cond.instanceMethod ({ cls := "AddressHouse$House", name := "addUser", desc := "(LAddressHouse$Row;)I" } : Jvm.MethodName) ∈ xw0 := List.mem_of_getElem? (i := 376) rfl
theorem k_377 : Jvm.Cond.selects "AddressHouse$House" ({ cls := "AddressHouse$House", name := "addUser", desc := "(LAddressHouse$Row;)I" } : Jvm.MethodName) ({ cls := "AddressHouse$House", name := "addUser", desc := "(LAddressHouse$Row;)I" } : Jvm.MethodName) ∈ xw0 := List.mem_of_getElem? (i := 377) rfl
theorem k_378 : Jvm.Cond.code ({ cls := "AddressHouse$House", name := "addUser", desc := "(LAddressHouse$Row;)I" } : Jvm.MethodName) prog_6_method_2_code (5 : Nat) (Option.some Jvm.ClassFile.FieldType.int) ∈ xw0 := List.mem_of_getElem? (i := 378) rfl
theorem k_379 : Jvm.Cond.methodLink "AddressHouse$House" (62 : Nat) ({ cls := "AddressHouse$Row", name := "at", desc := "(I)I" } : Jvm.MethodName) ∈ xw0 := List.mem_of_getElem? (i := 379) rfl
theorem k_380 : Jvm.Cond.instanceMethod ({ cls := "AddressHouse$Row", name := "at", desc := "(I)I" } : Jvm.MethodName) ∈ xw0 := List.mem_of_getElem? (i := 380) rfl
theorem k_381 : Jvm.Cond.selects "AddressHouse$Row" ({ cls := "AddressHouse$Row", name := "at", desc := "(I)I" } : Jvm.MethodName) ({ cls := "AddressHouse$Row", name := "at", desc := "(I)I" } : Jvm.MethodName) ∈ xw0 := List.mem_of_getElem? (i := 381) rfl
theorem k_382 : Jvm.Cond.code ({ cls := "AddressHouse$Row", name := "at", desc := "(I)I" } : Jvm.MethodName) prog_9_method_4_code (2 : Nat) (Option.some Jvm.ClassFile.FieldType.int) ∈ xw0 := List.mem_of_getElem? (i := 382) rfl
theorem k_383 : Jvm.Cond.methodLink "AddressHouse$House" (69 : Nat) ({ cls := "AddressHouse$House", name := "userNamed", desc := "(LAddressHouse$Row;II)I" } : Jvm.MethodName) ∈ xw0 := List.mem_of_getElem? (i := 383) rfl
theorem k_384 : Jvm.Cond.methodLink "AddressHouse$House" (73 : Nat) ({ cls := "AddressHouse$Row", name := "copy", desc := "(LAddressHouse$Row;II)V" } : Jvm.MethodName) ∈ xw0 := List.mem_of_getElem? (i := 384) rfl
theorem k_385 : Jvm.Cond.methodLink "AddressHouse" (92 : Nat) ({ cls := "AddressHouse$Row", name := "clear", desc := "()V" } : Jvm.MethodName) ∈ xw0 := List.mem_of_getElem? (i := 385) rfl
theorem k_386 : Jvm.Cond.instanceMethod ({ cls := "AddressHouse$Row", name := "clear", desc := "()V" } : Jvm.MethodName) ∈ xw0 := List.mem_of_getElem? (i := 386) rfl
theorem k_387 : Jvm.Cond.selects "AddressHouse$Row" ({ cls := "AddressHouse$Row", name := "clear", desc := "()V" } : Jvm.MethodName) ({ cls := "AddressHouse$Row", name := "clear", desc := "()V" } : Jvm.MethodName) ∈ xw0 := List.mem_of_getElem? (i := 387) rfl
theorem k_388 : Jvm.Cond.code ({ cls := "AddressHouse$Row", name := "clear", desc := "()V" } : Jvm.MethodName) prog_9_method_2_code (1 : Nat) (Option.none : Option Jvm.ClassFile.FieldType) ∈ xw0 := List.mem_of_getElem? (i := 388) rfl
theorem k_389 : Jvm.Cond.instanceMethod ({ cls := "AddressHouse", name := "open", desc := "()I" } : Jvm.MethodName) ∈ xw0 := List.mem_of_getElem? (i := 389) rfl
theorem k_390 : Jvm.Cond.selects "AddressHouse" ({ cls := "AddressHouse", name := "open", desc := "()I" } : Jvm.MethodName) ({ cls := "AddressHouse", name := "open", desc := "()I" } : Jvm.MethodName) ∈ xw0 := List.mem_of_getElem? (i := 390) rfl
theorem k_391 : Jvm.Cond.code ({ cls := "AddressHouse", name := "open", desc := "()I" } : Jvm.MethodName) prog_1_method_5_code (2 : Nat) (Option.some Jvm.ClassFile.FieldType.int) ∈ xw0 := List.mem_of_getElem? (i := 391) rfl
theorem k_392 : Jvm.Cond.methodLink "AddressHouse" (99 : Nat) ({ cls := "AddressHouse$Wire", name := "next", desc := "()V" } : Jvm.MethodName) ∈ xw0 := List.mem_of_getElem? (i := 392) rfl
theorem k_393 : Jvm.Cond.instanceMethod ({ cls := "AddressHouse$Wire", name := "next", desc := "()V" } : Jvm.MethodName) ∈ xw0 := List.mem_of_getElem? (i := 393) rfl
theorem k_394 : Jvm.Cond.selects "AddressHouse$Wire" ({ cls := "AddressHouse$Wire", name := "next", desc := "()V" } : Jvm.MethodName) ({ cls := "AddressHouse$Wire", name := "next", desc := "()V" } : Jvm.MethodName) ∈ xw0 := List.mem_of_getElem? (i := 394) rfl
theorem k_395 : Jvm.Cond.code ({ cls := "AddressHouse$Wire", name := "next", desc := "()V" } : Jvm.MethodName) prog_11_method_2_code (1 : Nat) (Option.none : Option Jvm.ClassFile.FieldType) ∈ xw0 := List.mem_of_getElem? (i := 395) rfl
theorem k_396 : Jvm.Cond.methodLink "AddressHouse$Wire" (30 : Nat) ({ cls := "AddressHouse$Row", name := "clear", desc := "()V" } : Jvm.MethodName) ∈ xw0 := List.mem_of_getElem? (i := 396) rfl
theorem k_397 : Jvm.Cond.instanceMethod ({ cls := "AddressHouse", name := "isOpen", desc := "(I)Z" } : Jvm.MethodName) ∈ xw0 := List.mem_of_getElem? (i := 397) rfl
theorem k_398 : Jvm.Cond.selects "AddressHouse" ({ cls := "AddressHouse", name := "isOpen", desc := "(I)Z" } : Jvm.MethodName) ({ cls := "AddressHouse", name := "isOpen", desc := "(I)Z" } : Jvm.MethodName) ∈ xw0 := List.mem_of_getElem? (i := 398) rfl
theorem k_399 : Jvm.Cond.code ({ cls := "AddressHouse", name := "isOpen", desc := "(I)Z" } : Jvm.MethodName) prog_1_method_7_code (2 : Nat) (Option.some Jvm.ClassFile.FieldType.boolean) ∈ xw0 := List.mem_of_getElem? (i := 399) rfl
theorem k_400 : Jvm.Cond.instanceMethod ({ cls := "AddressHouse", name := "shut", desc := "(I)Z" } : Jvm.MethodName) ∈ xw0 := List.mem_of_getElem? (i := 400) rfl
theorem k_401 : Jvm.Cond.selects "AddressHouse" ({ cls := "AddressHouse", name := "shut", desc := "(I)Z" } : Jvm.MethodName) ({ cls := "AddressHouse", name := "shut", desc := "(I)Z" } : Jvm.MethodName) ∈ xw0 := List.mem_of_getElem? (i := 401) rfl
theorem k_402 : Jvm.Cond.code ({ cls := "AddressHouse", name := "shut", desc := "(I)Z" } : Jvm.MethodName) prog_1_method_8_code (2 : Nat) (Option.some Jvm.ClassFile.FieldType.boolean) ∈ xw0 := List.mem_of_getElem? (i := 402) rfl
theorem k_403 : Jvm.Cond.methodLink "AddressHouse" (102 : Nat) ({ cls := "AddressHouse", name := "isOpen", desc := "(I)Z" } : Jvm.MethodName) ∈ xw0 := List.mem_of_getElem? (i := 403) rfl
theorem k_404 : Jvm.Cond.instanceMethod ({ cls := "AddressHouse", name := "out", desc := "()I" } : Jvm.MethodName) ∈ xw0 := List.mem_of_getElem? (i := 404) rfl
theorem k_405 : Jvm.Cond.selects "AddressHouse" ({ cls := "AddressHouse", name := "out", desc := "()I" } : Jvm.MethodName) ({ cls := "AddressHouse", name := "out", desc := "()I" } : Jvm.MethodName) ∈ xw0 := List.mem_of_getElem? (i := 405) rfl
theorem k_406 : Jvm.Cond.code ({ cls := "AddressHouse", name := "out", desc := "()I" } : Jvm.MethodName) prog_1_method_9_code (1 : Nat) (Option.some Jvm.ClassFile.FieldType.int) ∈ xw0 := List.mem_of_getElem? (i := 406) rfl
theorem k_407 : Jvm.Cond.instanceMethod ({ cls := "AddressHouse$Card", name := "read", desc := "(LAddressHouse$Row;)Z" } : Jvm.MethodName) ∈ xw0 := List.mem_of_getElem? (i := 407) rfl
theorem k_408 : Jvm.Cond.selects "AddressHouse$Card" ({ cls := "AddressHouse$Card", name := "read", desc := "(LAddressHouse$Row;)Z" } : Jvm.MethodName) ({ cls := "AddressHouse$Card", name := "read", desc := "(LAddressHouse$Row;)Z" } : Jvm.MethodName) ∈ xw0 := List.mem_of_getElem? (i := 408) rfl
theorem k_409 : Jvm.Cond.code ({ cls := "AddressHouse$Card", name := "read", desc := "(LAddressHouse$Row;)Z" } : Jvm.MethodName) prog_3_method_2_code (7 : Nat) (Option.some Jvm.ClassFile.FieldType.boolean) ∈ xw0 := List.mem_of_getElem? (i := 409) rfl
theorem k_410 : Jvm.Cond.methodLink "AddressHouse$Card" (38 : Nat) ({ cls := "AddressHouse$Card", name := "unfold", desc := "(LAddressHouse$Row;)V" } : Jvm.MethodName) ∈ xw0 := List.mem_of_getElem? (i := 410) rfl
theorem k_411 : Jvm.Cond.instanceMethod ({ cls := "AddressHouse$Card", name := "unfold", desc := "(LAddressHouse$Row;)V" } : Jvm.MethodName) ∈ xw0 := List.mem_of_getElem? (i := 411) rfl
theorem k_412 : Jvm.Cond.code ({ cls := "AddressHouse$Card", name := "unfold", desc := "(LAddressHouse$Row;)V" } : Jvm.MethodName) prog_3_method_3_code (4 : Nat) (Option.none : Option Jvm.ClassFile.FieldType) ∈ xw0 := List.mem_of_getElem? (i := 412) rfl
theorem k_413 : Jvm.Cond.methodLink "AddressHouse$Card" (78 : Nat) ({ cls := "AddressHouse$Row", name := "clear", desc := "()V" } : Jvm.MethodName) ∈ xw0 := List.mem_of_getElem? (i := 413) rfl
theorem k_414 : Jvm.Cond.methodLink "AddressHouse$Card" (60 : Nat) ({ cls := "AddressHouse$Row", name := "at", desc := "(I)I" } : Jvm.MethodName) ∈ xw0 := List.mem_of_getElem? (i := 414) rfl
theorem k_415 : Jvm.Cond.methodLink "AddressHouse$Card" (81 : Nat) ({ cls := "AddressHouse$Row", name := "put", desc := "(I)V" } : Jvm.MethodName) ∈ xw0 := List.mem_of_getElem? (i := 415) rfl
theorem k_416 : Jvm.Cond.methodLink "AddressHouse$Card" (55 : Nat) ({ cls := "AddressHouse$Card", name := "isClean", desc := "()Z" } : Jvm.MethodName) ∈ xw0 := List.mem_of_getElem? (i := 416) rfl
theorem k_417 : Jvm.Cond.instanceMethod ({ cls := "AddressHouse$Card", name := "isClean", desc := "()Z" } : Jvm.MethodName) ∈ xw0 := List.mem_of_getElem? (i := 417) rfl
theorem k_418 : Jvm.Cond.code ({ cls := "AddressHouse$Card", name := "isClean", desc := "()Z" } : Jvm.MethodName) prog_3_method_4_code (3 : Nat) (Option.some Jvm.ClassFile.FieldType.boolean) ∈ xw0 := List.mem_of_getElem? (i := 418) rfl
theorem k_419 : Jvm.Cond.methodLink "AddressHouse$Card" (84 : Nat) ({ cls := "AddressHouse$Row", name := "codeAt", desc := "(I)I" } : Jvm.MethodName) ∈ xw0 := List.mem_of_getElem? (i := 419) rfl
theorem k_420 : Jvm.Cond.methodLink "AddressHouse$Card" (87 : Nat) ({ cls := "AddressHouse$Row", name := "widthOf", desc := "(I)I" } : Jvm.MethodName) ∈ xw0 := List.mem_of_getElem? (i := 420) rfl
theorem k_421 : Jvm.Cond.methodLink "AddressHouse$Card" (64 : Nat) ({ cls := "AddressHouse$Card", name := "property", desc := "(II)Z" } : Jvm.MethodName) ∈ xw0 := List.mem_of_getElem? (i := 421) rfl
theorem k_422 : Jvm.Cond.methodLink "AddressHouse$Card" (68 : Nat) ({ cls := "AddressHouse$Card", name := "isBuilt", desc := "()Z" } : Jvm.MethodName) ∈ xw0 := List.mem_of_getElem? (i := 422) rfl
theorem k_423 : Jvm.Cond.methodLink "AddressHouse$Card" (71 : Nat) ({ cls := "AddressHouse$Card", name := "isFrame", desc := "(III)Z" } : Jvm.MethodName) ∈ xw0 := List.mem_of_getElem? (i := 423) rfl
theorem k_424 : Jvm.Cond.methodLink "AddressHouse$Card" (75 : Nat) ({ cls := "AddressHouse$Card", name := "isComplete", desc := "()Z" } : Jvm.MethodName) ∈ xw0 := List.mem_of_getElem? (i := 424) rfl
theorem k_425 : Jvm.Cond.instanceMethod ({ cls := "AddressHouse", name := "count", desc := "(I)I" } : Jvm.MethodName) ∈ xw0 := List.mem_of_getElem? (i := 425) rfl
theorem k_426 : Jvm.Cond.selects "AddressHouse" ({ cls := "AddressHouse", name := "count", desc := "(I)I" } : Jvm.MethodName) ({ cls := "AddressHouse", name := "count", desc := "(I)I" } : Jvm.MethodName) ∈ xw0 := List.mem_of_getElem? (i := 426) rfl
theorem k_427 : Jvm.Cond.code ({ cls := "AddressHouse", name := "count", desc := "(I)I" } : Jvm.MethodName) prog_1_method_12_code (2 : Nat) (Option.some Jvm.ClassFile.FieldType.int) ∈ xw0 := List.mem_of_getElem? (i := 427) rfl
theorem k_428 : Jvm.Cond.methodLink "AddressHouse" (195 : Nat) ({ cls := "AddressHouse$House", name := "bookCount", desc := "()I" } : Jvm.MethodName) ∈ xw0 := List.mem_of_getElem? (i := 428) rfl
theorem k_429 : Jvm.Cond.instanceMethod ({ cls := "AddressHouse$House", name := "bookCount", desc := "()I" } : Jvm.MethodName) ∈ xw0 := List.mem_of_getElem? (i := 429) rfl
theorem k_430 : Jvm.Cond.selects "AddressHouse$House" ({ cls := "AddressHouse$House", name := "bookCount", desc := "()I" } : Jvm.MethodName) ({ cls := "AddressHouse$House", name := "bookCount", desc := "()I" } : Jvm.MethodName) ∈ xw0 := List.mem_of_getElem? (i := 430) rfl
theorem k_431 : Jvm.Cond.code ({ cls := "AddressHouse$House", name := "bookCount", desc := "()I" } : Jvm.MethodName) prog_6_method_14_code (3 : Nat) (Option.some Jvm.ClassFile.FieldType.int) ∈ xw0 := List.mem_of_getElem? (i := 431) rfl
theorem k_432 : Jvm.Cond.methodLink "AddressHouse" (199 : Nat) ({ cls := "AddressHouse$House", name := "itemCount", desc := "()I" } : Jvm.MethodName) ∈ xw0 := List.mem_of_getElem? (i := 432) rfl
theorem k_433 : Jvm.Cond.instanceMethod ({ cls := "AddressHouse$House", name := "itemCount", desc := "()I" } : Jvm.MethodName) ∈ xw0 := List.mem_of_getElem? (i := 433) rfl
theorem k_434 : Jvm.Cond.selects "AddressHouse$House" ({ cls := "AddressHouse$House", name := "itemCount", desc := "()I" } : Jvm.MethodName) ({ cls := "AddressHouse$House", name := "itemCount", desc := "()I" } : Jvm.MethodName) ∈ xw0 := List.mem_of_getElem? (i := 434) rfl
theorem k_435 : Jvm.Cond.code ({ cls := "AddressHouse$House", name := "itemCount", desc := "()I" } : Jvm.MethodName) prog_6_method_15_code (3 : Nat) (Option.some Jvm.ClassFile.FieldType.int) ∈ xw0 := List.mem_of_getElem? (i := 435) rfl
theorem k_436 : Jvm.Cond.arrayClass Jvm.ClassFile.FieldType.boolean ∈ xw0 := List.mem_of_getElem? (i := 436) rfl
theorem k_437 : Jvm.Cond.arrayClass Jvm.ClassFile.FieldType.long ∈ xw0 := List.mem_of_getElem? (i := 437) rfl
theorem k_438 : Jvm.Cond.selects "AddressHouse$Card" ({ cls := "AddressHouse$Card", name := "unfold", desc := "(LAddressHouse$Row;)V" } : Jvm.MethodName) ({ cls := "AddressHouse$Card", name := "unfold", desc := "(LAddressHouse$Row;)V" } : Jvm.MethodName) ∈ xw0 := List.mem_of_getElem? (i := 438) rfl
theorem k_439 : Jvm.Cond.selects "AddressHouse$Card" ({ cls := "AddressHouse$Card", name := "isClean", desc := "()Z" } : Jvm.MethodName) ({ cls := "AddressHouse$Card", name := "isClean", desc := "()Z" } : Jvm.MethodName) ∈ xw0 := List.mem_of_getElem? (i := 439) rfl
theorem xw0_0_ok : ∀ w ∈ xw0_0, goodWord w = true := List.all_eq_true.mp (show xw0_0.all goodWord = true by unfold xw0_0; rfl)
theorem xw0_1_ok : ∀ w ∈ xw0_1, goodWord w = true := List.all_eq_true.mp (show xw0_1.all goodWord = true by unfold xw0_1; rfl)
theorem xw0_2_ok : ∀ w ∈ xw0_2, goodWord w = true := List.all_eq_true.mp (show xw0_2.all goodWord = true by unfold xw0_2; rfl)
theorem xw0_3_ok : ∀ w ∈ xw0_3, goodWord w = true := List.all_eq_true.mp (show xw0_3.all goodWord = true by unfold xw0_3; rfl)
theorem xw0_4_ok : ∀ w ∈ xw0_4, goodWord w = true := List.all_eq_true.mp (show xw0_4.all goodWord = true by unfold xw0_4; rfl)
theorem xw0_5_ok : ∀ w ∈ xw0_5, goodWord w = true := List.all_eq_true.mp (show xw0_5.all goodWord = true by unfold xw0_5; rfl)
theorem xw0_6_ok : ∀ w ∈ xw0_6, goodWord w = true := List.all_eq_true.mp (show xw0_6.all goodWord = true by unfold xw0_6; rfl)
theorem xw0_7_ok : ∀ w ∈ xw0_7, goodWord w = true := List.all_eq_true.mp (show xw0_7.all goodWord = true by unfold xw0_7; rfl)
theorem xw0_8_ok : ∀ w ∈ xw0_8, goodWord w = true := List.all_eq_true.mp (show xw0_8.all goodWord = true by unfold xw0_8; rfl)
theorem xw0_all : ∀ w ∈ xw0, goodWord w = true := List.forall_mem_append.mpr ⟨xw0_0_ok, List.forall_mem_append.mpr ⟨xw0_1_ok, List.forall_mem_append.mpr ⟨xw0_2_ok, List.forall_mem_append.mpr ⟨xw0_3_ok, List.forall_mem_append.mpr ⟨xw0_4_ok, List.forall_mem_append.mpr ⟨xw0_5_ok, List.forall_mem_append.mpr ⟨xw0_6_ok, List.forall_mem_append.mpr ⟨xw0_7_ok, xw0_8_ok⟩⟩⟩⟩⟩⟩⟩⟩
theorem xw_good {w0 : Cond} (h : w0 ∈ xw0) : GoodIn xw0 (w0 :: xw0) := by
  intro w hw
  have hm : w ∈ xw0 := by
    rcases List.mem_cons.mp hw with e | e
    · rw [e]; exact h
    · exact e
  exact ⟨hm, good_of_word (xw0_all w hm)⟩
theorem i_Row : ∀ w ∈ u_ws R_Row F_Row 3, w ∈ xw0 := by decide +kernel
theorem i_Wire : ∀ w ∈ u_ws R_Wire F_Wire 11, w ∈ xw0 := by decide +kernel
theorem i_Book : ∀ w ∈ u_ws R_Book F_Book 13, w ∈ xw0 := by decide +kernel
theorem i_Item : ∀ w ∈ u_ws R_Item F_Item 5, w ∈ xw0 := by decide +kernel
theorem i_House : ∀ w ∈ u_ws R_House F_House 17, w ∈ xw0 := by decide +kernel
theorem i_Card : ∀ w ∈ u_ws R_Card F_Card 10, w ∈ xw0 := by decide +kernel
theorem i_Xml : ∀ w ∈ u_ws R_Xml F_Xml 17, w ∈ xw0 := by decide +kernel
theorem i_Scribe : ∀ w ∈ u_ws R_Scribe F_Scribe 9, w ∈ xw0 := by decide +kernel
theorem i_Filter : ∀ w ∈ u_ws R_Filter F_Filter 9, w ∈ xw0 := by decide +kernel
theorem i_Listing : ∀ w ∈ u_ws R_Listing F_Listing 16, w ∈ xw0 := by decide +kernel
theorem i_Clerk : ∀ w ∈ u_ws R_Clerk F_Clerk 18, w ∈ xw0 := by decide +kernel
theorem i_Top : ∀ w ∈ u_ws R_Top F_Top 9, w ∈ xw0 := by decide +kernel
abbrev classes : List vw_C := [(R_Row, F_Row, 3), (R_Wire, F_Wire, 11), (R_Book, F_Book, 13), (R_Item, F_Item, 5), (R_House, F_House, 17), (R_Card, F_Card, 10), (R_Xml, F_Xml, 17), (R_Scribe, F_Scribe, 9), (R_Filter, F_Filter, 9), (R_Listing, F_Listing, 16), (R_Clerk, F_Clerk, 18), (R_Top, F_Top, 9)]
end
section
theorem d_Row_init_0 : decode b_Row_init 0 = .ok (.aload_n 0, 1) := by decide +kernel
theorem d_Row_init_1 : decode b_Row_init 1 = .ok (.invokespecial 3, 3) := by decide +kernel
theorem d_Row_init_4 : decode b_Row_init 4 = .ok (.aload_n 0, 1) := by decide +kernel
theorem d_Row_init_5 : decode b_Row_init 5 = .ok (.iload_n 1, 1) := by decide +kernel
theorem d_Row_init_6 : decode b_Row_init 6 = .ok (.ifCond .le 7, 3) := by decide +kernel
theorem d_Row_init_9 : decode b_Row_init 9 = .ok (.iload_n 1, 1) := by decide +kernel
theorem d_Row_init_10 : decode b_Row_init 10 = .ok (.goto 4, 3) := by decide +kernel
theorem d_Row_init_13 : decode b_Row_init 13 = .ok (.iconst 0, 1) := by decide +kernel
theorem d_Row_init_14 : decode b_Row_init 14 = .ok (.newarray .byte, 2) := by decide +kernel
theorem d_Row_init_16 : decode b_Row_init 16 = .ok (.putfield 9, 3) := by decide +kernel
theorem d_Row_init_19 : decode b_Row_init 19 = .ok (.return_, 1) := by decide +kernel
set_option maxHeartbeats 4000000 in
set_option maxRecDepth 100000 in
/-- Row(n): its bytes are n zeros -/
theorem c_Row_init (l : Launch) (dC : Nat → ClassId) (dI : Nat → Nat → Nat) (h0 sz n : Nat) (hn0 : 0 < n) (hn1 : n ≤ 65536) : Met l y_Row_init (Cond.code y_Row_init b_Row_init 2 none :: xw0) ({ frames := 1, cells := 1, slots := n, locals := 12 }) (va_Pc [.ref h0, .int (nI n)] (fun U => U.heap.size = sz ∧ va_P (dC, dI) classes [(h0, .inr (0, [.null, .int 0, .int 0]))] U.heap ∧ va_K (dC, dI) classes [] U ∧ va_D (fun _ => True) [(h0, .inr (0, [.null, .int 0, .int 0]))])) (va_Qv (fun _ : Unit => True) (fun (_ : Unit) (t : State) => ∃ (q : Nat) (cA : ClassId), va_P (dC, dI) classes [(h0, .inr (0, [.ref q, .int 0, .int 0])), (q, .inl (cA, n, .inl (fun _ => 0)))] t.heap ∧ va_K (dC, dI) classes [(cA, .byte)] t ∧ va_D (va_A [(h0, .inr (0, [.null, .int 0, .int 0]))] sz) [(h0, .inr (0, [.ref q, .int 0, .int 0])), (q, .inl (cA, n, .inl (fun _ => 0)))]) (va_A [(h0, .inr (0, [.null, .int 0, .int 0]))] sz)) 1 n (va_A [(h0, .inr (0, [.null, .int 0, .int 0]))] sz) := by
  refine Met.ofW (cc := b_Row_init) (maxL := 2) (ret := none) (by decide) rfl ?_
  intro p e s m args below meth c s₁ B hml hv
  obtain ⟨rfl, hsz, hP, hK, hD0⟩ := hv
  have hx := B.exec
  have hb := B.bytes
  have hr := B.returns
  have hts := atoms_spec (ws := Cond.code y_Row_init b_Row_init 2 none :: xw0) B.pre
  have ht : ∀ w ∈ xw0, w.before _ s = true := fun w h => hts w (List.mem_cons_of_mem _ h)
  have hown : s.vm.findClass R_Row = some m.cls := findClass_of_methodNamed B.named
  have hlocks := B.notSynchronized
  have hin : meth.name = "<init>" := (name_of_methodNamed B.named B.method).1
  subst hsz
  have hD := hD0.self (sz := s.heap.size)
  generalize hAe : va_A [(h0, .inr (0, [.null, .int 0, .int 0]))] s.heap.size = A at hD ⊢
  have hA : ∀ q : Nat, s.heap.size ≤ q → A q := fun q h => by rw [← hAe]; exact Or.inr h
  have hS : va_S A s.heap s.heap [] := va_S.rf
  have hP : va_P (dC, dI) classes [(h0, .inr (0, [.null, .int 0, .int 0]))] s.heap := hP
  have hl := lv_entry ([.ref h0, .int (nI n)]) (n := 2) (Nat.le_of_ble_eq_true rfl)
  rw [lg_entry_eq]
  generalize (lg_sl ([.ref h0, .int (nI n)]) ++ List.replicate (2 - (lg_sl ([.ref h0, .int (nI n)])).length) Slot.unset).toArray = ls at hl ⊢
  have hl : lv_has ls 2 [(0, .ref h0), (1, .int (nI n))] := hl
  refine lv_aload_n hx hb d_Row_init_0 rfl (lv_at hl 0 rfl) ?_
  refine W.objInit hx hb hown (ht _ k_23) (ht _ k_16) (ht _ k_17) rfl (by rw [hml]; exact hl.1) rfl d_Row_init_1 (Nat.le_of_ble_eq_true rfl) (Nat.le_of_ble_eq_true rfl) ?_
  refine W.eq (g2 := F0 m 4 ls []) rfl ?_
  refine lv_aload_n hx hb d_Row_init_4 rfl (lv_at hl 0 rfl) ?_
  refine lv_iload_n hx hb d_Row_init_5 rfl (lv_at hl 1 rfl) ?_
  refine lv_if_le (tgt := 13) hx hb d_Row_init_6 (by decide) (fun c_6 => absurd c_6 (nI_nle hn0 (by omega))) (fun c_6 => ?_)
  refine lv_iload_n hx hb d_Row_init_9 rfl (lv_at hl 1 rfl) ?_
  refine lv_goto (tgt := 14) hx hb d_Row_init_10 (by decide) ?_
  refine va_newa (atype := .byte) (ty := .byte) (a0 := (n, .inl (fun _ => 0))) hx hb (ht _ k_34) rfl hK hP hD hS hA (fun _ => rfl) (nI_pos (by omega)) (nI_clamp (by omega)) (by show n * 1 ≤ _; omega) (Nat.le_of_ble_eq_true rfl) (by show 0 + n ≤ n; omega) d_Row_init_14 (fun q1 cA2 H hK hP hD hS => ?_)
  refine W.widen (k := 1) (n := n) (by omega) (by omega) ?_
  have hP : va_P (dC, dI) classes [(h0, .inr (0, [.null, .int 0, .int 0])), (q1, .inl (cA2, n, .inl (fun _ => 0)))] H := hP
  have hD : va_D A [(h0, .inr (0, [.null, .int 0, .int 0])), (q1, .inl (cA2, n, .inl (fun _ => 0)))] := hD
  have hK : va_K (dC, dI) classes [(cA2, .byte)] s := hK
  refine va_putF (D := (dC, dI)) (ci := 0) (v := .ref q1) (ty := .array .byte) (C := R_Row) (T := F_Row) (N := 3) hx hb ht i_Row t_Row t_Row_ok n_Row hown hK hP hD hS 0 rfl rfl 0 (by decide) (ht _ k_24) (fun _ h9 => h9) rfl hin rfl (by decide +kernel) rfl rfl (Nat.le_of_ble_eq_true rfl) d_Row_init_16 (fun H locs hP hD hS => ?_)
  have hP : va_P (dC, dI) classes [(h0, .inr (0, [.ref q1, .int 0, .int 0])), (q1, .inl (cA2, n, .inl (fun _ => 0)))] H := hP
  have hD : va_D A [(h0, .inr (0, [.ref q1, .int 0, .int 0])), (q1, .inl (cA2, n, .inl (fun _ => 0)))] := hD
  exact W.vret hx hb hr (fun t ht9 hW => ⟨⟨(), rfl, trivial, q1, cA2, by rw [ht9]; exact hP, va_K.moved hW.alike hK, hD⟩, hS.F ht9⟩) hS.2.2 d_Row_init_19
end
section
theorem d_Row_clear_0 : decode b_Row_clear 0 = .ok (.aload_n 0, 1) := by decide +kernel
theorem d_Row_clear_1 : decode b_Row_clear 1 = .ok (.iconst 0, 1) := by decide +kernel
theorem d_Row_clear_2 : decode b_Row_clear 2 = .ok (.putfield 15, 3) := by decide +kernel
theorem d_Row_clear_5 : decode b_Row_clear 5 = .ok (.aload_n 0, 1) := by decide +kernel
theorem d_Row_clear_6 : decode b_Row_clear 6 = .ok (.iconst 0, 1) := by decide +kernel
theorem d_Row_clear_7 : decode b_Row_clear 7 = .ok (.putfield 19, 3) := by decide +kernel
theorem d_Row_clear_10 : decode b_Row_clear 10 = .ok (.return_, 1) := by decide +kernel
theorem d_Wire_init_0 : decode b_Wire_init 0 = .ok (.aload_n 0, 1) := by decide +kernel
theorem d_Wire_init_1 : decode b_Wire_init 1 = .ok (.invokespecial 3, 3) := by decide +kernel
theorem d_Wire_init_4 : decode b_Wire_init 4 = .ok (.aload_n 0, 1) := by decide +kernel
theorem d_Wire_init_5 : decode b_Wire_init 5 = .ok (.new 9, 3) := by decide +kernel
theorem d_Wire_init_8 : decode b_Wire_init 8 = .ok (.dup, 1) := by decide +kernel
theorem d_Wire_init_9 : decode b_Wire_init 9 = .ok (.sipush 2000, 3) := by decide +kernel
theorem d_Wire_init_12 : decode b_Wire_init 12 = .ok (.invokespecial 13, 3) := by decide +kernel
theorem d_Wire_init_15 : decode b_Wire_init 15 = .ok (.putfield 16, 3) := by decide +kernel
theorem d_Wire_init_18 : decode b_Wire_init 18 = .ok (.aload_n 0, 1) := by decide +kernel
theorem d_Wire_init_19 : decode b_Wire_init 19 = .ok (.new 9, 3) := by decide +kernel
theorem d_Wire_init_22 : decode b_Wire_init 22 = .ok (.dup, 1) := by decide +kernel
theorem d_Wire_init_23 : decode b_Wire_init 23 = .ok (.sipush 3000, 3) := by decide +kernel
theorem d_Wire_init_26 : decode b_Wire_init 26 = .ok (.invokespecial 13, 3) := by decide +kernel
theorem d_Wire_init_29 : decode b_Wire_init 29 = .ok (.putfield 20, 3) := by decide +kernel
theorem d_Wire_init_32 : decode b_Wire_init 32 = .ok (.aload_n 0, 1) := by decide +kernel
theorem d_Wire_init_33 : decode b_Wire_init 33 = .ok (.bipush 10, 2) := by decide +kernel
theorem d_Wire_init_35 : decode b_Wire_init 35 = .ok (.newarray .int, 2) := by decide +kernel
theorem d_Wire_init_37 : decode b_Wire_init 37 = .ok (.putfield 23, 3) := by decide +kernel
theorem d_Wire_init_40 : decode b_Wire_init 40 = .ok (.aload_n 0, 1) := by decide +kernel
theorem d_Wire_init_41 : decode b_Wire_init 41 = .ok (.bipush 10, 2) := by decide +kernel
theorem d_Wire_init_43 : decode b_Wire_init 43 = .ok (.newarray .int, 2) := by decide +kernel
theorem d_Wire_init_45 : decode b_Wire_init 45 = .ok (.putfield 27, 3) := by decide +kernel
theorem d_Wire_init_48 : decode b_Wire_init 48 = .ok (.return_, 1) := by decide +kernel
set_option maxHeartbeats 4000000 in
set_option maxRecDepth 100000 in
/-- clear(): size and over are 0 -/
theorem c_Row_clear (l : Launch) (dC : Nat → ClassId) (dI : Nat → Nat → Nat) (h0 sz : Nat) (vc : Value) (x1 x2 : Int32) : Met l y_Row_clear (Cond.code y_Row_clear b_Row_clear 1 none :: xw0) ({ frames := 0, cells := 0, slots := 0, locals := 0 }) (va_Pc [.ref h0] (fun U => U.heap.size = sz ∧ va_P (dC, dI) classes [(h0, .inr (0, [vc, .int x1, .int x2]))] U.heap ∧ va_K (dC, dI) classes [] U ∧ va_D (fun _ => True) [(h0, .inr (0, [vc, .int x1, .int x2]))])) (va_Qv (fun _ : Unit => True) (fun (_ : Unit) (t : State) => va_P (dC, dI) classes [(h0, .inr (0, [vc, .int (nI 0), .int (nI 0)]))] t.heap ∧ va_K (dC, dI) classes [] t ∧ va_D (va_A [(h0, .inr (0, [vc, .int x1, .int x2]))] sz) [(h0, .inr (0, [vc, .int (nI 0), .int (nI 0)]))]) (va_A [(h0, .inr (0, [vc, .int x1, .int x2]))] sz)) 0 0 (va_A [(h0, .inr (0, [vc, .int x1, .int x2]))] sz) := by
  refine Met.ofW (cc := b_Row_clear) (maxL := 1) (ret := none) (by decide) rfl ?_
  intro p e s m args below meth c s₁ B hml hv
  obtain ⟨rfl, hsz, hP, hK, hD0⟩ := hv
  have hx := B.exec
  have hb := B.bytes
  have hr := B.returns
  have hts := atoms_spec (ws := Cond.code y_Row_clear b_Row_clear 1 none :: xw0) B.pre
  have ht : ∀ w ∈ xw0, w.before _ s = true := fun w h => hts w (List.mem_cons_of_mem _ h)
  have hown : s.vm.findClass R_Row = some m.cls := findClass_of_methodNamed B.named
  have hlocks := B.notSynchronized
  subst hsz
  have hD := hD0.self (sz := s.heap.size)
  generalize hAe : va_A [(h0, .inr (0, [vc, .int x1, .int x2]))] s.heap.size = A at hD ⊢
  have hA : ∀ q : Nat, s.heap.size ≤ q → A q := fun q h => by rw [← hAe]; exact Or.inr h
  have hS : va_S A s.heap s.heap [] := va_S.rf
  have hP : va_P (dC, dI) classes [(h0, .inr (0, [vc, .int x1, .int x2]))] s.heap := hP
  have hl := lv_entry ([.ref h0]) (n := 1) (Nat.le_of_ble_eq_true rfl)
  rw [lg_entry_eq]
  generalize (lg_sl ([.ref h0]) ++ List.replicate (1 - (lg_sl ([.ref h0])).length) Slot.unset).toArray = ls at hl ⊢
  have hl : lv_has ls 1 [(0, .ref h0)] := hl
  refine lv_aload_n hx hb d_Row_clear_0 rfl (lv_at hl 0 rfl) ?_
  refine lv_iconst (v := (nI 0)) hx hb d_Row_clear_1 (by decide) ?_
  refine va_put (D := (dC, dI)) (ci := 0) (v := .int (nI 0)) (ty := .int) (C := R_Row) (T := F_Row) (N := 3) hx hb ht i_Row t_Row t_Row_ok n_Row hown hK hP hD hS 0 rfl rfl 1 (by decide) (ht _ k_25) (fun _ h9 => h9) rfl (by decide +kernel) rfl rfl (Nat.le_of_ble_eq_true rfl) d_Row_clear_2 (fun H locs hP hD hS => ?_)
  have hP : va_P (dC, dI) classes [(h0, .inr (0, [vc, .int (nI 0), .int x2]))] H := hP
  have hD : va_D A [(h0, .inr (0, [vc, .int (nI 0), .int x2]))] := hD
  refine lv_aload_n hx hb d_Row_clear_5 rfl (lv_at hl 0 rfl) ?_
  refine lv_iconst (v := (nI 0)) hx hb d_Row_clear_6 (by decide) ?_
  refine va_put (D := (dC, dI)) (ci := 0) (v := .int (nI 0)) (ty := .boolean) (C := R_Row) (T := F_Row) (N := 3) hx hb ht i_Row t_Row t_Row_ok n_Row hown hK hP hD hS 0 rfl rfl 2 (by decide) (ht _ k_29) (fun _ h9 => h9) rfl (by decide +kernel) rfl rfl (Nat.le_of_ble_eq_true rfl) d_Row_clear_7 (fun H locs hP hD hS => ?_)
  have hP : va_P (dC, dI) classes [(h0, .inr (0, [vc, .int (nI 0), .int (nI 0)]))] H := hP
  have hD : va_D A [(h0, .inr (0, [vc, .int (nI 0), .int (nI 0)]))] := hD
  have hP9 := hP.sub (ws' := [(h0, .inr (0, [vc, .int (nI 0), .int (nI 0)]))]) [0] rfl
  have hD9 := hD.sub (ws' := [(h0, .inr (0, [vc, .int (nI 0), .int (nI 0)]))]) [0] (by decide) rfl
  have hK9 := hK.sub (tys' := []) [] rfl
  exact W.vret hx hb hr (fun t ht9 hW => ⟨⟨(), rfl, trivial, by rw [ht9]; exact hP9, va_K.moved hW.alike hK9, hD9⟩, hS.F ht9⟩) hS.2.2 d_Row_clear_10
set_option maxHeartbeats 4000000 in
set_option maxRecDepth 100000 in
/-- Wire(): nothing alive, its two rows are empty -/
theorem c_Wire_init (l : Launch) (dC : Nat → ClassId) (dI : Nat → Nat → Nat) (h0 sz : Nat) : Met l y_Wire_init (Cond.code y_Wire_init b_Wire_init 1 none :: xw0) ({ frames := 2, cells := 6, slots := 5026, locals := 40 }) (va_Pc [.ref h0] (fun U => U.heap.size = sz ∧ va_P (dC, dI) classes [(h0, .inr (1, [.null, .null, .null, .null, .int 0, .int 0, .int 0, .int 0, .int 0, .int 0, .int 0]))] U.heap ∧ va_K (dC, dI) classes [] U ∧ va_D (fun _ => True) [(h0, .inr (1, [.null, .null, .null, .null, .int 0, .int 0, .int 0, .int 0, .int 0, .int 0, .int 0]))])) (va_Qv (fun _ : Unit => True) (fun (_ : Unit) (t : State) => ∃ (q1 q4 q7 q9 q2 q5 : Nat) , va_P (dC, dI) classes [(h0, .inr (1, [.ref q1, .ref q4, .ref q7, .ref q9, .int 0, .int 0, .int 0, .int 0, .int 0, .int 0, .int 0])), (q1, .inr (0, [.ref q2, .int 0, .int 0])), (q4, .inr (0, [.ref q5, .int 0, .int 0]))] t.heap ∧ va_K (dC, dI) classes [] t ∧ va_D (va_A [(h0, .inr (1, [.null, .null, .null, .null, .int 0, .int 0, .int 0, .int 0, .int 0, .int 0, .int 0]))] sz) [(h0, .inr (1, [.ref q1, .ref q4, .ref q7, .ref q9, .int 0, .int 0, .int 0, .int 0, .int 0, .int 0, .int 0])), (q1, .inr (0, [.ref q2, .int 0, .int 0])), (q4, .inr (0, [.ref q5, .int 0, .int 0]))]) (va_A [(h0, .inr (1, [.null, .null, .null, .null, .int 0, .int 0, .int 0, .int 0, .int 0, .int 0, .int 0]))] sz)) 6 5026 (va_A [(h0, .inr (1, [.null, .null, .null, .null, .int 0, .int 0, .int 0, .int 0, .int 0, .int 0, .int 0]))] sz) := by
  refine Met.ofW (cc := b_Wire_init) (maxL := 1) (ret := none) (by decide) rfl ?_
  intro p e s m args below meth c s₁ B hml hv
  obtain ⟨rfl, hsz, hP, hK, hD0⟩ := hv
  have hx := B.exec
  have hb := B.bytes
  have hr := B.returns
  have hts := atoms_spec (ws := Cond.code y_Wire_init b_Wire_init 1 none :: xw0) B.pre
  have ht : ∀ w ∈ xw0, w.before _ s = true := fun w h => hts w (List.mem_cons_of_mem _ h)
  have hown : s.vm.findClass R_Wire = some m.cls := findClass_of_methodNamed B.named
  have hlocks := B.notSynchronized
  have hin : meth.name = "<init>" := (name_of_methodNamed B.named B.method).1
  subst hsz
  have hD := hD0.self (sz := s.heap.size)
  generalize hAe : va_A [(h0, .inr (1, [.null, .null, .null, .null, .int 0, .int 0, .int 0, .int 0, .int 0, .int 0, .int 0]))] s.heap.size = A at hD ⊢
  have hA : ∀ q : Nat, s.heap.size ≤ q → A q := fun q h => by rw [← hAe]; exact Or.inr h
  have hS : va_S A s.heap s.heap [] := va_S.rf
  have hP : va_P (dC, dI) classes [(h0, .inr (1, [.null, .null, .null, .null, .int 0, .int 0, .int 0, .int 0, .int 0, .int 0, .int 0]))] s.heap := hP
  have hl := lv_entry ([.ref h0]) (n := 1) (Nat.le_of_ble_eq_true rfl)
  rw [lg_entry_eq]
  generalize (lg_sl ([.ref h0]) ++ List.replicate (1 - (lg_sl ([.ref h0])).length) Slot.unset).toArray = ls at hl ⊢
  have hl : lv_has ls 1 [(0, .ref h0)] := hl
  refine lv_aload_n hx hb d_Wire_init_0 rfl (lv_at hl 0 rfl) ?_
  refine W.objInit hx hb hown (ht _ k_41) (ht _ k_16) (ht _ k_17) rfl (by rw [hml]; exact hl.1) rfl d_Wire_init_1 (Nat.le_of_ble_eq_true rfl) (Nat.le_of_ble_eq_true rfl) ?_
  refine W.eq (g2 := F0 m 4 ls []) rfl ?_
  refine lv_aload_n hx hb d_Wire_init_4 rfl (lv_at hl 0 rfl) ?_
  refine va_new (ci := 0) (fs := [.null, .int 0, .int 0]) (C := R_Row) (T := F_Row) (N := 3) hx hb ht i_Row t_Row t_Row_ok hown (ht _ k_42) (ht _ k_19) (ht _ k_1) hK hP hD hS hA rfl (fun j hj => by rcases (show j = 0 ∨ j = 1 ∨ j = 2 by omega) with rfl | rfl | rfl <;> rfl) (Nat.le_of_ble_eq_true rfl) (Nat.le_of_ble_eq_true rfl) d_Wire_init_5 (fun q1 H hP hD hS => ?_)
  refine W.widen (k := 1) (n := 3) (by omega) (by omega) ?_
  have hP : va_P (dC, dI) classes [(h0, .inr (1, [.null, .null, .null, .null, .int 0, .int 0, .int 0, .int 0, .int 0, .int 0, .int 0])), (q1, .inr (0, [.null, .int 0, .int 0]))] H := hP
  have hD : va_D A [(h0, .inr (1, [.null, .null, .null, .null, .int 0, .int 0, .int 0, .int 0, .int 0, .int 0, .int 0])), (q1, .inr (0, [.null, .int 0, .int 0]))] := hD
  refine lv_dup hx hb d_Wire_init_8 rfl ?_
  refine lv_sipush (v := (nI 2000)) hx hb d_Wire_init_9 (by decide) ?_
  have hPc := hP.sub (ws' := [(q1, .inr (0, [.null, .int 0, .int 0]))]) [1] rfl
  have hDc := hD.sub (ws' := [(q1, .inr (0, [.null, .int 0, .int 0]))]) [1] (by decide) rfl
  have hKc := hK.sub (tys' := []) [] rfl
  have hFc := va_free (wc := [(q1, .inr (0, [.null, .int 0, .int 0]))]) hD hS hA [1] rfl
  refine va_callv (va_runI (As := [.int (nI 2000)]) (rest := [.ref q1, .ref h0]) ⟨hx, hb, hml, hown, ht⟩ (c_Row_init l dC dI q1 H.size 2000 (by decide) (by decide)) (cwI 1 ht (xw_good k_22) rfl rfl rfl (ht _ k_1) (ht _ k_43) (ht _ k_21) rfl (by decide +kernel) ⟨(Nat.le_of_ble_eq_true rfl), (Nat.le_of_ble_eq_true rfl)⟩) ⟨fun a U g mk q => by obtain ⟨q0, q1, qP, qK, qD⟩ := q; exact ⟨q0, q1, qP, va_K.moved (u := U) (U := U.calling g mk a) (Vm.Alike.refl U.vm) qK, qD⟩, fun U hU hW => ⟨rfl, by rw [hU], by rw [hU]; exact hPc, va_K.moved hW.alike hKc, hDc.weaken (fun _ _ _ _ => trivial)⟩⟩ rfl rfl hl.1 rfl (lv_room (Nat.le_of_ble_eq_true rfl)) d_Wire_init_12 ⟨(Nat.le_of_ble_eq_true rfl), (Nat.le_of_ble_eq_true rfl)⟩) hS (fun q _ h => hFc q h) hFc (fun u t H1 locs ht9 hvm hw hB hz1 hk1 hS => ?_)
  obtain ⟨q2, cA3, hP1, hK1, hD1⟩ := hB
  rw [ht9] at hP1
  have hK1 := va_K.moved hvm.symm hK1
  obtain ⟨hP, hD⟩ := va_join (wr := [(h0, .inr (1, [.null, .null, .null, .null, .int 0, .int 0, .int 0, .int 0, .int 0, .int 0, .int 0]))]) (w1 := [(q1, .inr (0, [.ref q2, .int 0, .int 0])), (q2, .inl (cA3, 2000, .inl (fun _ => 0)))]) hP hD [1] [0] rfl rfl (by decide) (by decide) hk1 hFc hP1 hD1
  have hK := (hK.sub (tys' := []) [] rfl).app hK1
  generalize H1 = H at hP hS ⊢
  have hP : va_P (dC, dI) classes [(h0, .inr (1, [.null, .null, .null, .null, .int 0, .int 0, .int 0, .int 0, .int 0, .int 0, .int 0])), (q1, .inr (0, [.ref q2, .int 0, .int 0])), (q2, .inl (cA3, 2000, .inl (fun _ => 0)))] H := hP
  have hD : va_D A [(h0, .inr (1, [.null, .null, .null, .null, .int 0, .int 0, .int 0, .int 0, .int 0, .int 0, .int 0])), (q1, .inr (0, [.ref q2, .int 0, .int 0])), (q2, .inl (cA3, 2000, .inl (fun _ => 0)))] := hD
  have hK : va_K (dC, dI) classes [(cA3, .byte)] s := hK
  refine W.widen (k := 2) (n := 2003) (by omega) (by omega) ?_
  refine va_putF (D := (dC, dI)) (ci := 1) (v := .ref q1) (ty := .object "AddressHouse$Row") (C := R_Wire) (T := F_Wire) (N := 11) hx hb ht i_Wire t_Wire t_Wire_ok n_Wire hown hK hP hD hS 0 rfl rfl 0 (by decide) (ht _ k_44) (fun _ h9 => h9) rfl hin rfl (by decide +kernel) rfl rfl (Nat.le_of_ble_eq_true rfl) d_Wire_init_15 (fun H locs hP hD hS => ?_)
  have hP : va_P (dC, dI) classes [(h0, .inr (1, [.ref q1, .null, .null, .null, .int 0, .int 0, .int 0, .int 0, .int 0, .int 0, .int 0])), (q1, .inr (0, [.ref q2, .int 0, .int 0])), (q2, .inl (cA3, 2000, .inl (fun _ => 0)))] H := hP
  have hD : va_D A [(h0, .inr (1, [.ref q1, .null, .null, .null, .int 0, .int 0, .int 0, .int 0, .int 0, .int 0, .int 0])), (q1, .inr (0, [.ref q2, .int 0, .int 0])), (q2, .inl (cA3, 2000, .inl (fun _ => 0)))] := hD
  refine lv_aload_n hx hb d_Wire_init_18 rfl (lv_at hl 0 rfl) ?_
  refine va_new (ci := 0) (fs := [.null, .int 0, .int 0]) (C := R_Row) (T := F_Row) (N := 3) hx hb ht i_Row t_Row t_Row_ok hown (ht _ k_42) (ht _ k_19) (ht _ k_1) hK hP hD hS hA rfl (fun j hj => by rcases (show j = 0 ∨ j = 1 ∨ j = 2 by omega) with rfl | rfl | rfl <;> rfl) (Nat.le_of_ble_eq_true rfl) (Nat.le_of_ble_eq_true rfl) d_Wire_init_19 (fun q4 H hP hD hS => ?_)
  refine W.widen (k := 3) (n := 2006) (by omega) (by omega) ?_
  have hP : va_P (dC, dI) classes [(h0, .inr (1, [.ref q1, .null, .null, .null, .int 0, .int 0, .int 0, .int 0, .int 0, .int 0, .int 0])), (q1, .inr (0, [.ref q2, .int 0, .int 0])), (q2, .inl (cA3, 2000, .inl (fun _ => 0))), (q4, .inr (0, [.null, .int 0, .int 0]))] H := hP
  have hD : va_D A [(h0, .inr (1, [.ref q1, .null, .null, .null, .int 0, .int 0, .int 0, .int 0, .int 0, .int 0, .int 0])), (q1, .inr (0, [.ref q2, .int 0, .int 0])), (q2, .inl (cA3, 2000, .inl (fun _ => 0))), (q4, .inr (0, [.null, .int 0, .int 0]))] := hD
  refine lv_dup hx hb d_Wire_init_22 rfl ?_
  refine lv_sipush (v := (nI 3000)) hx hb d_Wire_init_23 (by decide) ?_
  have hPc := hP.sub (ws' := [(q4, .inr (0, [.null, .int 0, .int 0]))]) [3] rfl
  have hDc := hD.sub (ws' := [(q4, .inr (0, [.null, .int 0, .int 0]))]) [3] (by decide) rfl
  have hKc := hK.sub (tys' := []) [] rfl
  have hFc := va_free (wc := [(q4, .inr (0, [.null, .int 0, .int 0]))]) hD hS hA [3] rfl
  refine va_callv (va_runI (As := [.int (nI 3000)]) (rest := [.ref q4, .ref h0]) ⟨hx, hb, hml, hown, ht⟩ (c_Row_init l dC dI q4 H.size 3000 (by decide) (by decide)) (cwI 1 ht (xw_good k_22) rfl rfl rfl (ht _ k_1) (ht _ k_43) (ht _ k_21) rfl (by decide +kernel) ⟨(Nat.le_of_ble_eq_true rfl), (Nat.le_of_ble_eq_true rfl)⟩) ⟨fun a U g mk q => by obtain ⟨q0, q1, qP, qK, qD⟩ := q; exact ⟨q0, q1, qP, va_K.moved (u := U) (U := U.calling g mk a) (Vm.Alike.refl U.vm) qK, qD⟩, fun U hU hW => ⟨rfl, by rw [hU], by rw [hU]; exact hPc, va_K.moved hW.alike hKc, hDc.weaken (fun _ _ _ _ => trivial)⟩⟩ rfl rfl hl.1 rfl (lv_room (Nat.le_of_ble_eq_true rfl)) d_Wire_init_26 ⟨(Nat.le_of_ble_eq_true rfl), (Nat.le_of_ble_eq_true rfl)⟩) hS (fun q _ h => hFc q h) hFc (fun u t H1 locs ht9 hvm hw hB hz1 hk1 hS => ?_)
  obtain ⟨q5, cA6, hP1, hK1, hD1⟩ := hB
  rw [ht9] at hP1
  have hK1 := va_K.moved hvm.symm hK1
  obtain ⟨hP, hD⟩ := va_join (wr := [(h0, .inr (1, [.ref q1, .null, .null, .null, .int 0, .int 0, .int 0, .int 0, .int 0, .int 0, .int 0])), (q1, .inr (0, [.ref q2, .int 0, .int 0])), (q2, .inl (cA3, 2000, .inl (fun _ => 0)))]) (w1 := [(q4, .inr (0, [.ref q5, .int 0, .int 0])), (q5, .inl (cA6, 3000, .inl (fun _ => 0)))]) hP hD [3] [0, 1, 2] rfl rfl (by decide) (by decide) hk1 hFc hP1 hD1
  have hK := (hK.sub (tys' := [(cA3, .byte)]) [0] rfl).app hK1
  generalize H1 = H at hP hS ⊢
  have hP : va_P (dC, dI) classes [(h0, .inr (1, [.ref q1, .null, .null, .null, .int 0, .int 0, .int 0, .int 0, .int 0, .int 0, .int 0])), (q1, .inr (0, [.ref q2, .int 0, .int 0])), (q2, .inl (cA3, 2000, .inl (fun _ => 0))), (q4, .inr (0, [.ref q5, .int 0, .int 0])), (q5, .inl (cA6, 3000, .inl (fun _ => 0)))] H := hP
  have hD : va_D A [(h0, .inr (1, [.ref q1, .null, .null, .null, .int 0, .int 0, .int 0, .int 0, .int 0, .int 0, .int 0])), (q1, .inr (0, [.ref q2, .int 0, .int 0])), (q2, .inl (cA3, 2000, .inl (fun _ => 0))), (q4, .inr (0, [.ref q5, .int 0, .int 0])), (q5, .inl (cA6, 3000, .inl (fun _ => 0)))] := hD
  have hK : va_K (dC, dI) classes [(cA3, .byte), (cA6, .byte)] s := hK
  refine W.widen (k := 4) (n := 5006) (by omega) (by omega) ?_
  refine va_putF (D := (dC, dI)) (ci := 1) (v := .ref q4) (ty := .object "AddressHouse$Row") (C := R_Wire) (T := F_Wire) (N := 11) hx hb ht i_Wire t_Wire t_Wire_ok n_Wire hown hK hP hD hS 0 rfl rfl 1 (by decide) (ht _ k_45) (fun _ h9 => h9) rfl hin rfl (by decide +kernel) rfl rfl (Nat.le_of_ble_eq_true rfl) d_Wire_init_29 (fun H locs hP hD hS => ?_)
  have hP : va_P (dC, dI) classes [(h0, .inr (1, [.ref q1, .ref q4, .null, .null, .int 0, .int 0, .int 0, .int 0, .int 0, .int 0, .int 0])), (q1, .inr (0, [.ref q2, .int 0, .int 0])), (q2, .inl (cA3, 2000, .inl (fun _ => 0))), (q4, .inr (0, [.ref q5, .int 0, .int 0])), (q5, .inl (cA6, 3000, .inl (fun _ => 0)))] H := hP
  have hD : va_D A [(h0, .inr (1, [.ref q1, .ref q4, .null, .null, .int 0, .int 0, .int 0, .int 0, .int 0, .int 0, .int 0])), (q1, .inr (0, [.ref q2, .int 0, .int 0])), (q2, .inl (cA3, 2000, .inl (fun _ => 0))), (q4, .inr (0, [.ref q5, .int 0, .int 0])), (q5, .inl (cA6, 3000, .inl (fun _ => 0)))] := hD
  refine lv_aload_n hx hb d_Wire_init_32 rfl (lv_at hl 0 rfl) ?_
  refine lv_bipush (v := (nI 10)) hx hb d_Wire_init_33 (by decide) ?_
  refine va_newa (atype := .int) (ty := .int) (a0 := (10, .inl (fun _ => 0))) hx hb (ht _ k_62) rfl hK hP hD hS hA (fun _ => rfl) (nI_pos (by decide)) (nI_clamp (by decide)) (by decide) (Nat.le_of_ble_eq_true rfl) (Nat.le_of_ble_eq_true rfl) d_Wire_init_35 (fun q7 cA8 H hK hP hD hS => ?_)
  refine W.widen (k := 5) (n := 5016) (by omega) (by omega) ?_
  have hP : va_P (dC, dI) classes [(h0, .inr (1, [.ref q1, .ref q4, .null, .null, .int 0, .int 0, .int 0, .int 0, .int 0, .int 0, .int 0])), (q1, .inr (0, [.ref q2, .int 0, .int 0])), (q2, .inl (cA3, 2000, .inl (fun _ => 0))), (q4, .inr (0, [.ref q5, .int 0, .int 0])), (q5, .inl (cA6, 3000, .inl (fun _ => 0))), (q7, .inl (cA8, 10, .inl (fun _ => 0)))] H := hP
  have hD : va_D A [(h0, .inr (1, [.ref q1, .ref q4, .null, .null, .int 0, .int 0, .int 0, .int 0, .int 0, .int 0, .int 0])), (q1, .inr (0, [.ref q2, .int 0, .int 0])), (q2, .inl (cA3, 2000, .inl (fun _ => 0))), (q4, .inr (0, [.ref q5, .int 0, .int 0])), (q5, .inl (cA6, 3000, .inl (fun _ => 0))), (q7, .inl (cA8, 10, .inl (fun _ => 0)))] := hD
  have hK : va_K (dC, dI) classes [(cA3, .byte), (cA6, .byte), (cA8, .int)] s := hK
  refine va_putF (D := (dC, dI)) (ci := 1) (v := .ref q7) (ty := .array .int) (C := R_Wire) (T := F_Wire) (N := 11) hx hb ht i_Wire t_Wire t_Wire_ok n_Wire hown hK hP hD hS 0 rfl rfl 2 (by decide) (ht _ k_46) (fun _ h9 => h9) rfl hin rfl (by decide +kernel) rfl rfl (Nat.le_of_ble_eq_true rfl) d_Wire_init_37 (fun H locs hP hD hS => ?_)
  have hP : va_P (dC, dI) classes [(h0, .inr (1, [.ref q1, .ref q4, .ref q7, .null, .int 0, .int 0, .int 0, .int 0, .int 0, .int 0, .int 0])), (q1, .inr (0, [.ref q2, .int 0, .int 0])), (q2, .inl (cA3, 2000, .inl (fun _ => 0))), (q4, .inr (0, [.ref q5, .int 0, .int 0])), (q5, .inl (cA6, 3000, .inl (fun _ => 0))), (q7, .inl (cA8, 10, .inl (fun _ => 0)))] H := hP
  have hD : va_D A [(h0, .inr (1, [.ref q1, .ref q4, .ref q7, .null, .int 0, .int 0, .int 0, .int 0, .int 0, .int 0, .int 0])), (q1, .inr (0, [.ref q2, .int 0, .int 0])), (q2, .inl (cA3, 2000, .inl (fun _ => 0))), (q4, .inr (0, [.ref q5, .int 0, .int 0])), (q5, .inl (cA6, 3000, .inl (fun _ => 0))), (q7, .inl (cA8, 10, .inl (fun _ => 0)))] := hD
  refine lv_aload_n hx hb d_Wire_init_40 rfl (lv_at hl 0 rfl) ?_
  refine lv_bipush (v := (nI 10)) hx hb d_Wire_init_41 (by decide) ?_
  refine va_newa (atype := .int) (ty := .int) (a0 := (10, .inl (fun _ => 0))) hx hb (ht _ k_62) rfl hK hP hD hS hA (fun _ => rfl) (nI_pos (by decide)) (nI_clamp (by decide)) (by decide) (Nat.le_of_ble_eq_true rfl) (Nat.le_of_ble_eq_true rfl) d_Wire_init_43 (fun q9 cA10 H hK hP hD hS => ?_)
  refine W.widen (k := 6) (n := 5026) (by omega) (by omega) ?_
  have hP : va_P (dC, dI) classes [(h0, .inr (1, [.ref q1, .ref q4, .ref q7, .null, .int 0, .int 0, .int 0, .int 0, .int 0, .int 0, .int 0])), (q1, .inr (0, [.ref q2, .int 0, .int 0])), (q2, .inl (cA3, 2000, .inl (fun _ => 0))), (q4, .inr (0, [.ref q5, .int 0, .int 0])), (q5, .inl (cA6, 3000, .inl (fun _ => 0))), (q7, .inl (cA8, 10, .inl (fun _ => 0))), (q9, .inl (cA10, 10, .inl (fun _ => 0)))] H := hP
  have hD : va_D A [(h0, .inr (1, [.ref q1, .ref q4, .ref q7, .null, .int 0, .int 0, .int 0, .int 0, .int 0, .int 0, .int 0])), (q1, .inr (0, [.ref q2, .int 0, .int 0])), (q2, .inl (cA3, 2000, .inl (fun _ => 0))), (q4, .inr (0, [.ref q5, .int 0, .int 0])), (q5, .inl (cA6, 3000, .inl (fun _ => 0))), (q7, .inl (cA8, 10, .inl (fun _ => 0))), (q9, .inl (cA10, 10, .inl (fun _ => 0)))] := hD
  have hK : va_K (dC, dI) classes [(cA3, .byte), (cA6, .byte), (cA8, .int), (cA10, .int)] s := hK
  refine va_putF (D := (dC, dI)) (ci := 1) (v := .ref q9) (ty := .array .int) (C := R_Wire) (T := F_Wire) (N := 11) hx hb ht i_Wire t_Wire t_Wire_ok n_Wire hown hK hP hD hS 0 rfl rfl 3 (by decide) (ht _ k_47) (fun _ h9 => h9) rfl hin rfl (by decide +kernel) rfl rfl (Nat.le_of_ble_eq_true rfl) d_Wire_init_45 (fun H locs hP hD hS => ?_)
  have hP : va_P (dC, dI) classes [(h0, .inr (1, [.ref q1, .ref q4, .ref q7, .ref q9, .int 0, .int 0, .int 0, .int 0, .int 0, .int 0, .int 0])), (q1, .inr (0, [.ref q2, .int 0, .int 0])), (q2, .inl (cA3, 2000, .inl (fun _ => 0))), (q4, .inr (0, [.ref q5, .int 0, .int 0])), (q5, .inl (cA6, 3000, .inl (fun _ => 0))), (q7, .inl (cA8, 10, .inl (fun _ => 0))), (q9, .inl (cA10, 10, .inl (fun _ => 0)))] H := hP
  have hD : va_D A [(h0, .inr (1, [.ref q1, .ref q4, .ref q7, .ref q9, .int 0, .int 0, .int 0, .int 0, .int 0, .int 0, .int 0])), (q1, .inr (0, [.ref q2, .int 0, .int 0])), (q2, .inl (cA3, 2000, .inl (fun _ => 0))), (q4, .inr (0, [.ref q5, .int 0, .int 0])), (q5, .inl (cA6, 3000, .inl (fun _ => 0))), (q7, .inl (cA8, 10, .inl (fun _ => 0))), (q9, .inl (cA10, 10, .inl (fun _ => 0)))] := hD
  have hP9 := hP.sub (ws' := [(h0, .inr (1, [.ref q1, .ref q4, .ref q7, .ref q9, .int 0, .int 0, .int 0, .int 0, .int 0, .int 0, .int 0])), (q1, .inr (0, [.ref q2, .int 0, .int 0])), (q4, .inr (0, [.ref q5, .int 0, .int 0]))]) [0, 1, 3] rfl
  have hD9 := hD.sub (ws' := [(h0, .inr (1, [.ref q1, .ref q4, .ref q7, .ref q9, .int 0, .int 0, .int 0, .int 0, .int 0, .int 0, .int 0])), (q1, .inr (0, [.ref q2, .int 0, .int 0])), (q4, .inr (0, [.ref q5, .int 0, .int 0]))]) [0, 1, 3] (by decide) rfl
  have hK9 := hK.sub (tys' := []) [] rfl
  exact W.vret hx hb hr (fun t ht9 hW => ⟨⟨(), rfl, trivial, q1, q4, q7, q9, q2, q5, by rw [ht9]; exact hP9, va_K.moved hW.alike hK9, hD9⟩, hS.F ht9⟩) hS.2.2 d_Wire_init_48
end
section
theorem d_Item_init_0 : decode b_Item_init 0 = .ok (.aload_n 0, 1) := by decide +kernel
theorem d_Item_init_1 : decode b_Item_init 1 = .ok (.invokespecial 3, 3) := by decide +kernel
theorem d_Item_init_4 : decode b_Item_init 4 = .ok (.aload_n 0, 1) := by decide +kernel
theorem d_Item_init_5 : decode b_Item_init 5 = .ok (.iconst (-1), 1) := by decide +kernel
theorem d_Item_init_6 : decode b_Item_init 6 = .ok (.putfield 9, 3) := by decide +kernel
theorem d_Item_init_9 : decode b_Item_init 9 = .ok (.aload_n 0, 1) := by decide +kernel
theorem d_Item_init_10 : decode b_Item_init 10 = .ok (.new 15, 3) := by decide +kernel
theorem d_Item_init_13 : decode b_Item_init 13 = .ok (.dup, 1) := by decide +kernel
theorem d_Item_init_14 : decode b_Item_init 14 = .ok (.bipush 20, 2) := by decide +kernel
theorem d_Item_init_16 : decode b_Item_init 16 = .ok (.invokespecial 17, 3) := by decide +kernel
theorem d_Item_init_19 : decode b_Item_init 19 = .ok (.putfield 20, 3) := by decide +kernel
theorem d_Item_init_22 : decode b_Item_init 22 = .ok (.aload_n 0, 1) := by decide +kernel
theorem d_Item_init_23 : decode b_Item_init 23 = .ok (.new 15, 3) := by decide +kernel
theorem d_Item_init_26 : decode b_Item_init 26 = .ok (.dup, 1) := by decide +kernel
theorem d_Item_init_27 : decode b_Item_init 27 = .ok (.sipush 2000, 3) := by decide +kernel
theorem d_Item_init_30 : decode b_Item_init 30 = .ok (.invokespecial 17, 3) := by decide +kernel
theorem d_Item_init_33 : decode b_Item_init 33 = .ok (.putfield 26, 3) := by decide +kernel
theorem d_Item_init_36 : decode b_Item_init 36 = .ok (.aload_n 0, 1) := by decide +kernel
theorem d_Item_init_37 : decode b_Item_init 37 = .ok (.new 15, 3) := by decide +kernel
theorem d_Item_init_40 : decode b_Item_init 40 = .ok (.dup, 1) := by decide +kernel
theorem d_Item_init_41 : decode b_Item_init 41 = .ok (.sipush 800, 3) := by decide +kernel
theorem d_Item_init_44 : decode b_Item_init 44 = .ok (.invokespecial 17, 3) := by decide +kernel
theorem d_Item_init_47 : decode b_Item_init 47 = .ok (.putfield 29, 3) := by decide +kernel
theorem d_Item_init_50 : decode b_Item_init 50 = .ok (.return_, 1) := by decide +kernel
theorem d_Book_init_0 : decode b_Book_init 0 = .ok (.aload_n 0, 1) := by decide +kernel
theorem d_Book_init_1 : decode b_Book_init 1 = .ok (.invokespecial 3, 3) := by decide +kernel
theorem d_Book_init_4 : decode b_Book_init 4 = .ok (.aload_n 0, 1) := by decide +kernel
theorem d_Book_init_5 : decode b_Book_init 5 = .ok (.iconst (-1), 1) := by decide +kernel
theorem d_Book_init_6 : decode b_Book_init 6 = .ok (.putfield 9, 3) := by decide +kernel
theorem d_Book_init_9 : decode b_Book_init 9 = .ok (.aload_n 0, 1) := by decide +kernel
theorem d_Book_init_10 : decode b_Book_init 10 = .ok (.new 15, 3) := by decide +kernel
theorem d_Book_init_13 : decode b_Book_init 13 = .ok (.dup, 1) := by decide +kernel
theorem d_Book_init_14 : decode b_Book_init 14 = .ok (.bipush 20, 2) := by decide +kernel
theorem d_Book_init_16 : decode b_Book_init 16 = .ok (.invokespecial 17, 3) := by decide +kernel
theorem d_Book_init_19 : decode b_Book_init 19 = .ok (.putfield 20, 3) := by decide +kernel
theorem d_Book_init_22 : decode b_Book_init 22 = .ok (.aload_n 0, 1) := by decide +kernel
theorem d_Book_init_23 : decode b_Book_init 23 = .ok (.new 15, 3) := by decide +kernel
theorem d_Book_init_26 : decode b_Book_init 26 = .ok (.dup, 1) := by decide +kernel
theorem d_Book_init_27 : decode b_Book_init 27 = .ok (.bipush 60, 2) := by decide +kernel
theorem d_Book_init_29 : decode b_Book_init 29 = .ok (.invokespecial 17, 3) := by decide +kernel
theorem d_Book_init_32 : decode b_Book_init 32 = .ok (.putfield 24, 3) := by decide +kernel
theorem d_Book_init_35 : decode b_Book_init 35 = .ok (.aload_n 0, 1) := by decide +kernel
theorem d_Book_init_36 : decode b_Book_init 36 = .ok (.new 15, 3) := by decide +kernel
theorem d_Book_init_39 : decode b_Book_init 39 = .ok (.dup, 1) := by decide +kernel
theorem d_Book_init_40 : decode b_Book_init 40 = .ok (.bipush 60, 2) := by decide +kernel
theorem d_Book_init_42 : decode b_Book_init 42 = .ok (.invokespecial 17, 3) := by decide +kernel
theorem d_Book_init_45 : decode b_Book_init 45 = .ok (.putfield 27, 3) := by decide +kernel
theorem d_Book_init_48 : decode b_Book_init 48 = .ok (.aload_n 0, 1) := by decide +kernel
theorem d_Book_init_49 : decode b_Book_init 49 = .ok (.iconst 4, 1) := by decide +kernel
theorem d_Book_init_50 : decode b_Book_init 50 = .ok (.newarray .int, 2) := by decide +kernel
theorem d_Book_init_52 : decode b_Book_init 52 = .ok (.putfield 32, 3) := by decide +kernel
theorem d_Book_init_55 : decode b_Book_init 55 = .ok (.aload_n 0, 1) := by decide +kernel
theorem d_Book_init_56 : decode b_Book_init 56 = .ok (.bipush 20, 2) := by decide +kernel
theorem d_Book_init_58 : decode b_Book_init 58 = .ok (.anewarray 15, 3) := by decide +kernel
theorem d_Book_init_61 : decode b_Book_init 61 = .ok (.putfield 36, 3) := by decide +kernel
theorem d_Book_init_64 : decode b_Book_init 64 = .ok (.iconst 0, 1) := by decide +kernel
theorem d_Book_init_65 : decode b_Book_init 65 = .ok (.istore_n 1, 1) := by decide +kernel
theorem d_Book_init_66 : decode b_Book_init 66 = .ok (.iload_n 1, 1) := by decide +kernel
theorem d_Book_init_67 : decode b_Book_init 67 = .ok (.bipush 20, 2) := by decide +kernel
theorem d_Book_init_69 : decode b_Book_init 69 = .ok (.if_icmp .ge 24, 3) := by decide +kernel
theorem d_Book_init_72 : decode b_Book_init 72 = .ok (.aload_n 0, 1) := by decide +kernel
theorem d_Book_init_73 : decode b_Book_init 73 = .ok (.getfield 36, 3) := by decide +kernel
theorem d_Book_init_76 : decode b_Book_init 76 = .ok (.iload_n 1, 1) := by decide +kernel
theorem d_Book_init_77 : decode b_Book_init 77 = .ok (.new 15, 3) := by decide +kernel
theorem d_Book_init_80 : decode b_Book_init 80 = .ok (.dup, 1) := by decide +kernel
theorem d_Book_init_81 : decode b_Book_init 81 = .ok (.bipush 20, 2) := by decide +kernel
theorem d_Book_init_83 : decode b_Book_init 83 = .ok (.invokespecial 17, 3) := by decide +kernel
theorem d_Book_init_86 : decode b_Book_init 86 = .ok (.aastore, 1) := by decide +kernel
theorem d_Book_init_87 : decode b_Book_init 87 = .ok (.iinc 1 1, 3) := by decide +kernel
theorem d_Book_init_90 : decode b_Book_init 90 = .ok (.goto (-24), 3) := by decide +kernel
theorem d_Book_init_93 : decode b_Book_init 93 = .ok (.aload_n 0, 1) := by decide +kernel
theorem d_Book_init_94 : decode b_Book_init 94 = .ok (.bipush 20, 2) := by decide +kernel
theorem d_Book_init_96 : decode b_Book_init 96 = .ok (.newarray .int, 2) := by decide +kernel
theorem d_Book_init_98 : decode b_Book_init 98 = .ok (.putfield 40, 3) := by decide +kernel
theorem d_Book_init_101 : decode b_Book_init 101 = .ok (.return_, 1) := by decide +kernel
set_option maxHeartbeats 4000000 in
set_option maxRecDepth 100000 in
/-- Item(): of no book -/
theorem c_Item_init (l : Launch) (dC : Nat → ClassId) (dI : Nat → Nat → Nat) (h0 sz : Nat) : Met l y_Item_init (Cond.code y_Item_init b_Item_init 1 none :: xw0) ({ frames := 2, cells := 6, slots := 2829, locals := 40 }) (va_Pc [.ref h0] (fun U => U.heap.size = sz ∧ va_P (dC, dI) classes [(h0, .inr (3, [.int 0, .int 0, .null, .null, .null]))] U.heap ∧ va_K (dC, dI) classes [] U ∧ va_D (fun _ => True) [(h0, .inr (3, [.int 0, .int 0, .null, .null, .null]))])) (va_Qv (fun _ : Unit => True) (fun (_ : Unit) (t : State) => ∃ (q1 q4 q7 : Nat) , va_P (dC, dI) classes [(h0, .inr (3, [.int (-1), .int 0, .ref q1, .ref q4, .ref q7]))] t.heap ∧ va_K (dC, dI) classes [] t ∧ va_D (va_A [(h0, .inr (3, [.int 0, .int 0, .null, .null, .null]))] sz) [(h0, .inr (3, [.int (-1), .int 0, .ref q1, .ref q4, .ref q7]))]) (va_A [(h0, .inr (3, [.int 0, .int 0, .null, .null, .null]))] sz)) 6 2829 (va_A [(h0, .inr (3, [.int 0, .int 0, .null, .null, .null]))] sz) := by
  refine Met.ofW (cc := b_Item_init) (maxL := 1) (ret := none) (by decide) rfl ?_
  intro p e s m args below meth c s₁ B hml hv
  obtain ⟨rfl, hsz, hP, hK, hD0⟩ := hv
  have hx := B.exec
  have hb := B.bytes
  have hr := B.returns
  have hts := atoms_spec (ws := Cond.code y_Item_init b_Item_init 1 none :: xw0) B.pre
  have ht : ∀ w ∈ xw0, w.before _ s = true := fun w h => hts w (List.mem_cons_of_mem _ h)
  have hown : s.vm.findClass R_Item = some m.cls := findClass_of_methodNamed B.named
  have hlocks := B.notSynchronized
  have hin : meth.name = "<init>" := (name_of_methodNamed B.named B.method).1
  subst hsz
  have hD := hD0.self (sz := s.heap.size)
  generalize hAe : va_A [(h0, .inr (3, [.int 0, .int 0, .null, .null, .null]))] s.heap.size = A at hD ⊢
  have hA : ∀ q : Nat, s.heap.size ≤ q → A q := fun q h => by rw [← hAe]; exact Or.inr h
  have hS : va_S A s.heap s.heap [] := va_S.rf
  have hP : va_P (dC, dI) classes [(h0, .inr (3, [.int 0, .int 0, .null, .null, .null]))] s.heap := hP
  have hl := lv_entry ([.ref h0]) (n := 1) (Nat.le_of_ble_eq_true rfl)
  rw [lg_entry_eq]
  generalize (lg_sl ([.ref h0]) ++ List.replicate (1 - (lg_sl ([.ref h0])).length) Slot.unset).toArray = ls at hl ⊢
  have hl : lv_has ls 1 [(0, .ref h0)] := hl
  refine lv_aload_n hx hb d_Item_init_0 rfl (lv_at hl 0 rfl) ?_
  refine W.objInit hx hb hown (ht _ k_106) (ht _ k_16) (ht _ k_17) rfl (by rw [hml]; exact hl.1) rfl d_Item_init_1 (Nat.le_of_ble_eq_true rfl) (Nat.le_of_ble_eq_true rfl) ?_
  refine W.eq (g2 := F0 m 4 ls []) rfl ?_
  refine lv_aload_n hx hb d_Item_init_4 rfl (lv_at hl 0 rfl) ?_
  refine lv_iconst (v := (-1)) hx hb d_Item_init_5 (by decide) ?_
  refine va_put (D := (dC, dI)) (ci := 3) (v := .int (-1)) (ty := .int) (C := R_Item) (T := F_Item) (N := 5) hx hb ht i_Item t_Item t_Item_ok n_Item hown hK hP hD hS 0 rfl rfl 0 (by decide) (ht _ k_109) (fun _ h9 => h9) rfl (by decide +kernel) rfl rfl (Nat.le_of_ble_eq_true rfl) d_Item_init_6 (fun H locs hP hD hS => ?_)
  have hP : va_P (dC, dI) classes [(h0, .inr (3, [.int (-1), .int 0, .null, .null, .null]))] H := hP
  have hD : va_D A [(h0, .inr (3, [.int (-1), .int 0, .null, .null, .null]))] := hD
  refine lv_aload_n hx hb d_Item_init_9 rfl (lv_at hl 0 rfl) ?_
  refine va_new (ci := 0) (fs := [.null, .int 0, .int 0]) (C := R_Row) (T := F_Row) (N := 3) hx hb ht i_Row t_Row t_Row_ok hown (ht _ k_107) (ht _ k_19) (ht _ k_1) hK hP hD hS hA rfl (fun j hj => by rcases (show j = 0 ∨ j = 1 ∨ j = 2 by omega) with rfl | rfl | rfl <;> rfl) (Nat.le_of_ble_eq_true rfl) (Nat.le_of_ble_eq_true rfl) d_Item_init_10 (fun q1 H hP hD hS => ?_)
  refine W.widen (k := 1) (n := 3) (by omega) (by omega) ?_
  have hP : va_P (dC, dI) classes [(h0, .inr (3, [.int (-1), .int 0, .null, .null, .null])), (q1, .inr (0, [.null, .int 0, .int 0]))] H := hP
  have hD : va_D A [(h0, .inr (3, [.int (-1), .int 0, .null, .null, .null])), (q1, .inr (0, [.null, .int 0, .int 0]))] := hD
  refine lv_dup hx hb d_Item_init_13 rfl ?_
  refine lv_bipush (v := (nI 20)) hx hb d_Item_init_14 (by decide) ?_
  have hPc := hP.sub (ws' := [(q1, .inr (0, [.null, .int 0, .int 0]))]) [1] rfl
  have hDc := hD.sub (ws' := [(q1, .inr (0, [.null, .int 0, .int 0]))]) [1] (by decide) rfl
  have hKc := hK.sub (tys' := []) [] rfl
  have hFc := va_free (wc := [(q1, .inr (0, [.null, .int 0, .int 0]))]) hD hS hA [1] rfl
  refine va_callv (va_runI (As := [.int (nI 20)]) (rest := [.ref q1, .ref h0]) ⟨hx, hb, hml, hown, ht⟩ (c_Row_init l dC dI q1 H.size 20 (by decide) (by decide)) (cwI 1 ht (xw_good k_22) rfl rfl rfl (ht _ k_1) (ht _ k_108) (ht _ k_21) rfl (by decide +kernel) ⟨(Nat.le_of_ble_eq_true rfl), (Nat.le_of_ble_eq_true rfl)⟩) ⟨fun a U g mk q => by obtain ⟨q0, q1, qP, qK, qD⟩ := q; exact ⟨q0, q1, qP, va_K.moved (u := U) (U := U.calling g mk a) (Vm.Alike.refl U.vm) qK, qD⟩, fun U hU hW => ⟨rfl, by rw [hU], by rw [hU]; exact hPc, va_K.moved hW.alike hKc, hDc.weaken (fun _ _ _ _ => trivial)⟩⟩ rfl rfl hl.1 rfl (lv_room (Nat.le_of_ble_eq_true rfl)) d_Item_init_16 ⟨(Nat.le_of_ble_eq_true rfl), (Nat.le_of_ble_eq_true rfl)⟩) hS (fun q _ h => hFc q h) hFc (fun u t H1 locs ht9 hvm hw hB hz1 hk1 hS => ?_)
  obtain ⟨q2, cA3, hP1, hK1, hD1⟩ := hB
  rw [ht9] at hP1
  have hK1 := va_K.moved hvm.symm hK1
  obtain ⟨hP, hD⟩ := va_join (wr := [(h0, .inr (3, [.int (-1), .int 0, .null, .null, .null]))]) (w1 := [(q1, .inr (0, [.ref q2, .int 0, .int 0])), (q2, .inl (cA3, 20, .inl (fun _ => 0)))]) hP hD [1] [0] rfl rfl (by decide) (by decide) hk1 hFc hP1 hD1
  have hK := (hK.sub (tys' := []) [] rfl).app hK1
  generalize H1 = H at hP hS ⊢
  have hP : va_P (dC, dI) classes [(h0, .inr (3, [.int (-1), .int 0, .null, .null, .null])), (q1, .inr (0, [.ref q2, .int 0, .int 0])), (q2, .inl (cA3, 20, .inl (fun _ => 0)))] H := hP
  have hD : va_D A [(h0, .inr (3, [.int (-1), .int 0, .null, .null, .null])), (q1, .inr (0, [.ref q2, .int 0, .int 0])), (q2, .inl (cA3, 20, .inl (fun _ => 0)))] := hD
  have hK : va_K (dC, dI) classes [(cA3, .byte)] s := hK
  refine W.widen (k := 2) (n := 23) (by omega) (by omega) ?_
  refine va_putF (D := (dC, dI)) (ci := 3) (v := .ref q1) (ty := .object "AddressHouse$Row") (C := R_Item) (T := F_Item) (N := 5) hx hb ht i_Item t_Item t_Item_ok n_Item hown hK hP hD hS 0 rfl rfl 2 (by decide) (ht _ k_111) (fun _ h9 => h9) rfl hin rfl (by decide +kernel) rfl rfl (Nat.le_of_ble_eq_true rfl) d_Item_init_19 (fun H locs hP hD hS => ?_)
  have hP : va_P (dC, dI) classes [(h0, .inr (3, [.int (-1), .int 0, .ref q1, .null, .null])), (q1, .inr (0, [.ref q2, .int 0, .int 0])), (q2, .inl (cA3, 20, .inl (fun _ => 0)))] H := hP
  have hD : va_D A [(h0, .inr (3, [.int (-1), .int 0, .ref q1, .null, .null])), (q1, .inr (0, [.ref q2, .int 0, .int 0])), (q2, .inl (cA3, 20, .inl (fun _ => 0)))] := hD
  refine lv_aload_n hx hb d_Item_init_22 rfl (lv_at hl 0 rfl) ?_
  refine va_new (ci := 0) (fs := [.null, .int 0, .int 0]) (C := R_Row) (T := F_Row) (N := 3) hx hb ht i_Row t_Row t_Row_ok hown (ht _ k_107) (ht _ k_19) (ht _ k_1) hK hP hD hS hA rfl (fun j hj => by rcases (show j = 0 ∨ j = 1 ∨ j = 2 by omega) with rfl | rfl | rfl <;> rfl) (Nat.le_of_ble_eq_true rfl) (Nat.le_of_ble_eq_true rfl) d_Item_init_23 (fun q4 H hP hD hS => ?_)
  refine W.widen (k := 3) (n := 26) (by omega) (by omega) ?_
  have hP : va_P (dC, dI) classes [(h0, .inr (3, [.int (-1), .int 0, .ref q1, .null, .null])), (q1, .inr (0, [.ref q2, .int 0, .int 0])), (q2, .inl (cA3, 20, .inl (fun _ => 0))), (q4, .inr (0, [.null, .int 0, .int 0]))] H := hP
  have hD : va_D A [(h0, .inr (3, [.int (-1), .int 0, .ref q1, .null, .null])), (q1, .inr (0, [.ref q2, .int 0, .int 0])), (q2, .inl (cA3, 20, .inl (fun _ => 0))), (q4, .inr (0, [.null, .int 0, .int 0]))] := hD
  refine lv_dup hx hb d_Item_init_26 rfl ?_
  refine lv_sipush (v := (nI 2000)) hx hb d_Item_init_27 (by decide) ?_
  have hPc := hP.sub (ws' := [(q4, .inr (0, [.null, .int 0, .int 0]))]) [3] rfl
  have hDc := hD.sub (ws' := [(q4, .inr (0, [.null, .int 0, .int 0]))]) [3] (by decide) rfl
  have hKc := hK.sub (tys' := []) [] rfl
  have hFc := va_free (wc := [(q4, .inr (0, [.null, .int 0, .int 0]))]) hD hS hA [3] rfl
  refine va_callv (va_runI (As := [.int (nI 2000)]) (rest := [.ref q4, .ref h0]) ⟨hx, hb, hml, hown, ht⟩ (c_Row_init l dC dI q4 H.size 2000 (by decide) (by decide)) (cwI 1 ht (xw_good k_22) rfl rfl rfl (ht _ k_1) (ht _ k_108) (ht _ k_21) rfl (by decide +kernel) ⟨(Nat.le_of_ble_eq_true rfl), (Nat.le_of_ble_eq_true rfl)⟩) ⟨fun a U g mk q => by obtain ⟨q0, q1, qP, qK, qD⟩ := q; exact ⟨q0, q1, qP, va_K.moved (u := U) (U := U.calling g mk a) (Vm.Alike.refl U.vm) qK, qD⟩, fun U hU hW => ⟨rfl, by rw [hU], by rw [hU]; exact hPc, va_K.moved hW.alike hKc, hDc.weaken (fun _ _ _ _ => trivial)⟩⟩ rfl rfl hl.1 rfl (lv_room (Nat.le_of_ble_eq_true rfl)) d_Item_init_30 ⟨(Nat.le_of_ble_eq_true rfl), (Nat.le_of_ble_eq_true rfl)⟩) hS (fun q _ h => hFc q h) hFc (fun u t H1 locs ht9 hvm hw hB hz1 hk1 hS => ?_)
  obtain ⟨q5, cA6, hP1, hK1, hD1⟩ := hB
  rw [ht9] at hP1
  have hK1 := va_K.moved hvm.symm hK1
  obtain ⟨hP, hD⟩ := va_join (wr := [(h0, .inr (3, [.int (-1), .int 0, .ref q1, .null, .null])), (q1, .inr (0, [.ref q2, .int 0, .int 0])), (q2, .inl (cA3, 20, .inl (fun _ => 0)))]) (w1 := [(q4, .inr (0, [.ref q5, .int 0, .int 0])), (q5, .inl (cA6, 2000, .inl (fun _ => 0)))]) hP hD [3] [0, 1, 2] rfl rfl (by decide) (by decide) hk1 hFc hP1 hD1
  have hK := (hK.sub (tys' := [(cA3, .byte)]) [0] rfl).app hK1
  generalize H1 = H at hP hS ⊢
  have hP : va_P (dC, dI) classes [(h0, .inr (3, [.int (-1), .int 0, .ref q1, .null, .null])), (q1, .inr (0, [.ref q2, .int 0, .int 0])), (q2, .inl (cA3, 20, .inl (fun _ => 0))), (q4, .inr (0, [.ref q5, .int 0, .int 0])), (q5, .inl (cA6, 2000, .inl (fun _ => 0)))] H := hP
  have hD : va_D A [(h0, .inr (3, [.int (-1), .int 0, .ref q1, .null, .null])), (q1, .inr (0, [.ref q2, .int 0, .int 0])), (q2, .inl (cA3, 20, .inl (fun _ => 0))), (q4, .inr (0, [.ref q5, .int 0, .int 0])), (q5, .inl (cA6, 2000, .inl (fun _ => 0)))] := hD
  have hK : va_K (dC, dI) classes [(cA3, .byte), (cA6, .byte)] s := hK
  refine W.widen (k := 4) (n := 2026) (by omega) (by omega) ?_
  refine va_putF (D := (dC, dI)) (ci := 3) (v := .ref q4) (ty := .object "AddressHouse$Row") (C := R_Item) (T := F_Item) (N := 5) hx hb ht i_Item t_Item t_Item_ok n_Item hown hK hP hD hS 0 rfl rfl 3 (by decide) (ht _ k_112) (fun _ h9 => h9) rfl hin rfl (by decide +kernel) rfl rfl (Nat.le_of_ble_eq_true rfl) d_Item_init_33 (fun H locs hP hD hS => ?_)
  have hP : va_P (dC, dI) classes [(h0, .inr (3, [.int (-1), .int 0, .ref q1, .ref q4, .null])), (q1, .inr (0, [.ref q2, .int 0, .int 0])), (q2, .inl (cA3, 20, .inl (fun _ => 0))), (q4, .inr (0, [.ref q5, .int 0, .int 0])), (q5, .inl (cA6, 2000, .inl (fun _ => 0)))] H := hP
  have hD : va_D A [(h0, .inr (3, [.int (-1), .int 0, .ref q1, .ref q4, .null])), (q1, .inr (0, [.ref q2, .int 0, .int 0])), (q2, .inl (cA3, 20, .inl (fun _ => 0))), (q4, .inr (0, [.ref q5, .int 0, .int 0])), (q5, .inl (cA6, 2000, .inl (fun _ => 0)))] := hD
  refine lv_aload_n hx hb d_Item_init_36 rfl (lv_at hl 0 rfl) ?_
  refine va_new (ci := 0) (fs := [.null, .int 0, .int 0]) (C := R_Row) (T := F_Row) (N := 3) hx hb ht i_Row t_Row t_Row_ok hown (ht _ k_107) (ht _ k_19) (ht _ k_1) hK hP hD hS hA rfl (fun j hj => by rcases (show j = 0 ∨ j = 1 ∨ j = 2 by omega) with rfl | rfl | rfl <;> rfl) (Nat.le_of_ble_eq_true rfl) (Nat.le_of_ble_eq_true rfl) d_Item_init_37 (fun q7 H hP hD hS => ?_)
  refine W.widen (k := 5) (n := 2029) (by omega) (by omega) ?_
  have hP : va_P (dC, dI) classes [(h0, .inr (3, [.int (-1), .int 0, .ref q1, .ref q4, .null])), (q1, .inr (0, [.ref q2, .int 0, .int 0])), (q2, .inl (cA3, 20, .inl (fun _ => 0))), (q4, .inr (0, [.ref q5, .int 0, .int 0])), (q5, .inl (cA6, 2000, .inl (fun _ => 0))), (q7, .inr (0, [.null, .int 0, .int 0]))] H := hP
  have hD : va_D A [(h0, .inr (3, [.int (-1), .int 0, .ref q1, .ref q4, .null])), (q1, .inr (0, [.ref q2, .int 0, .int 0])), (q2, .inl (cA3, 20, .inl (fun _ => 0))), (q4, .inr (0, [.ref q5, .int 0, .int 0])), (q5, .inl (cA6, 2000, .inl (fun _ => 0))), (q7, .inr (0, [.null, .int 0, .int 0]))] := hD
  refine lv_dup hx hb d_Item_init_40 rfl ?_
  refine lv_sipush (v := (nI 800)) hx hb d_Item_init_41 (by decide) ?_
  have hPc := hP.sub (ws' := [(q7, .inr (0, [.null, .int 0, .int 0]))]) [5] rfl
  have hDc := hD.sub (ws' := [(q7, .inr (0, [.null, .int 0, .int 0]))]) [5] (by decide) rfl
  have hKc := hK.sub (tys' := []) [] rfl
  have hFc := va_free (wc := [(q7, .inr (0, [.null, .int 0, .int 0]))]) hD hS hA [5] rfl
  refine va_callv (va_runI (As := [.int (nI 800)]) (rest := [.ref q7, .ref h0]) ⟨hx, hb, hml, hown, ht⟩ (c_Row_init l dC dI q7 H.size 800 (by decide) (by decide)) (cwI 1 ht (xw_good k_22) rfl rfl rfl (ht _ k_1) (ht _ k_108) (ht _ k_21) rfl (by decide +kernel) ⟨(Nat.le_of_ble_eq_true rfl), (Nat.le_of_ble_eq_true rfl)⟩) ⟨fun a U g mk q => by obtain ⟨q0, q1, qP, qK, qD⟩ := q; exact ⟨q0, q1, qP, va_K.moved (u := U) (U := U.calling g mk a) (Vm.Alike.refl U.vm) qK, qD⟩, fun U hU hW => ⟨rfl, by rw [hU], by rw [hU]; exact hPc, va_K.moved hW.alike hKc, hDc.weaken (fun _ _ _ _ => trivial)⟩⟩ rfl rfl hl.1 rfl (lv_room (Nat.le_of_ble_eq_true rfl)) d_Item_init_44 ⟨(Nat.le_of_ble_eq_true rfl), (Nat.le_of_ble_eq_true rfl)⟩) hS (fun q _ h => hFc q h) hFc (fun u t H1 locs ht9 hvm hw hB hz1 hk1 hS => ?_)
  obtain ⟨q8, cA9, hP1, hK1, hD1⟩ := hB
  rw [ht9] at hP1
  have hK1 := va_K.moved hvm.symm hK1
  obtain ⟨hP, hD⟩ := va_join (wr := [(h0, .inr (3, [.int (-1), .int 0, .ref q1, .ref q4, .null])), (q1, .inr (0, [.ref q2, .int 0, .int 0])), (q2, .inl (cA3, 20, .inl (fun _ => 0))), (q4, .inr (0, [.ref q5, .int 0, .int 0])), (q5, .inl (cA6, 2000, .inl (fun _ => 0)))]) (w1 := [(q7, .inr (0, [.ref q8, .int 0, .int 0])), (q8, .inl (cA9, 800, .inl (fun _ => 0)))]) hP hD [5] [0, 1, 2, 3, 4] rfl rfl (by decide) (by decide) hk1 hFc hP1 hD1
  have hK := (hK.sub (tys' := [(cA3, .byte), (cA6, .byte)]) [0, 1] rfl).app hK1
  generalize H1 = H at hP hS ⊢
  have hP : va_P (dC, dI) classes [(h0, .inr (3, [.int (-1), .int 0, .ref q1, .ref q4, .null])), (q1, .inr (0, [.ref q2, .int 0, .int 0])), (q2, .inl (cA3, 20, .inl (fun _ => 0))), (q4, .inr (0, [.ref q5, .int 0, .int 0])), (q5, .inl (cA6, 2000, .inl (fun _ => 0))), (q7, .inr (0, [.ref q8, .int 0, .int 0])), (q8, .inl (cA9, 800, .inl (fun _ => 0)))] H := hP
  have hD : va_D A [(h0, .inr (3, [.int (-1), .int 0, .ref q1, .ref q4, .null])), (q1, .inr (0, [.ref q2, .int 0, .int 0])), (q2, .inl (cA3, 20, .inl (fun _ => 0))), (q4, .inr (0, [.ref q5, .int 0, .int 0])), (q5, .inl (cA6, 2000, .inl (fun _ => 0))), (q7, .inr (0, [.ref q8, .int 0, .int 0])), (q8, .inl (cA9, 800, .inl (fun _ => 0)))] := hD
  have hK : va_K (dC, dI) classes [(cA3, .byte), (cA6, .byte), (cA9, .byte)] s := hK
  refine W.widen (k := 6) (n := 2829) (by omega) (by omega) ?_
  refine va_putF (D := (dC, dI)) (ci := 3) (v := .ref q7) (ty := .object "AddressHouse$Row") (C := R_Item) (T := F_Item) (N := 5) hx hb ht i_Item t_Item t_Item_ok n_Item hown hK hP hD hS 0 rfl rfl 4 (by decide) (ht _ k_113) (fun _ h9 => h9) rfl hin rfl (by decide +kernel) rfl rfl (Nat.le_of_ble_eq_true rfl) d_Item_init_47 (fun H locs hP hD hS => ?_)
  have hP : va_P (dC, dI) classes [(h0, .inr (3, [.int (-1), .int 0, .ref q1, .ref q4, .ref q7])), (q1, .inr (0, [.ref q2, .int 0, .int 0])), (q2, .inl (cA3, 20, .inl (fun _ => 0))), (q4, .inr (0, [.ref q5, .int 0, .int 0])), (q5, .inl (cA6, 2000, .inl (fun _ => 0))), (q7, .inr (0, [.ref q8, .int 0, .int 0])), (q8, .inl (cA9, 800, .inl (fun _ => 0)))] H := hP
  have hD : va_D A [(h0, .inr (3, [.int (-1), .int 0, .ref q1, .ref q4, .ref q7])), (q1, .inr (0, [.ref q2, .int 0, .int 0])), (q2, .inl (cA3, 20, .inl (fun _ => 0))), (q4, .inr (0, [.ref q5, .int 0, .int 0])), (q5, .inl (cA6, 2000, .inl (fun _ => 0))), (q7, .inr (0, [.ref q8, .int 0, .int 0])), (q8, .inl (cA9, 800, .inl (fun _ => 0)))] := hD
  have hP9 := hP.sub (ws' := [(h0, .inr (3, [.int (-1), .int 0, .ref q1, .ref q4, .ref q7]))]) [0] rfl
  have hD9 := hD.sub (ws' := [(h0, .inr (3, [.int (-1), .int 0, .ref q1, .ref q4, .ref q7]))]) [0] (by decide) rfl
  have hK9 := hK.sub (tys' := []) [] rfl
  exact W.vret hx hb hr (fun t ht9 hW => ⟨⟨(), rfl, trivial, q1, q4, q7, by rw [ht9]; exact hP9, va_K.moved hW.alike hK9, hD9⟩, hS.F ht9⟩) hS.2.2 d_Item_init_50
set_option maxHeartbeats 4000000 in
set_option maxRecDepth 100000 in
/-- Book(): of no owner -/
theorem c_Book_init (l : Launch) (dC : Nat → ClassId) (dI : Nat → Nat → Nat) (h0 sz : Nat) : Met l y_Book_init (Cond.code y_Book_init b_Book_init 2 none :: xw0) ({ frames := 2, cells := 49, slots := 653, locals := 40 }) (va_Pc [.ref h0] (fun U => U.heap.size = sz ∧ va_P (dC, dI) classes [(h0, .inr (2, [.int 0, .int 0, .null, .null, .int 0, .null, .int 0, .null, .int 0, .null, .null, .int 0, .int 0]))] U.heap ∧ va_K (dC, dI) classes [] U ∧ va_D (fun _ => True) [(h0, .inr (2, [.int 0, .int 0, .null, .null, .int 0, .null, .int 0, .null, .int 0, .null, .null, .int 0, .int 0]))] ∧ va_AO R_Row U)) (va_Qv (fun _ : Unit => True) (fun (_ : Unit) (t : State) => ∃ (q1 q4 q7 q10 q12 q74 : Nat) , va_P (dC, dI) classes [(h0, .inr (2, [.int (-1), .int 0, .ref q1, .ref q4, .int 0, .ref q7, .int 0, .ref q10, .int 0, .ref q12, .ref q74, .int 0, .int 0]))] t.heap ∧ va_K (dC, dI) classes [] t ∧ va_D (va_A [(h0, .inr (2, [.int 0, .int 0, .null, .null, .int 0, .null, .int 0, .null, .int 0, .null, .null, .int 0, .int 0]))] sz) [(h0, .inr (2, [.int (-1), .int 0, .ref q1, .ref q4, .int 0, .ref q7, .int 0, .ref q10, .int 0, .ref q12, .ref q74, .int 0, .int 0]))]) (va_A [(h0, .inr (2, [.int 0, .int 0, .null, .null, .int 0, .null, .int 0, .null, .int 0, .null, .null, .int 0, .int 0]))] sz)) 49 653 (va_A [(h0, .inr (2, [.int 0, .int 0, .null, .null, .int 0, .null, .int 0, .null, .int 0, .null, .null, .int 0, .int 0]))] sz) := by
  refine Met.ofW (cc := b_Book_init) (maxL := 2) (ret := none) (by decide) rfl ?_
  intro p e s m args below meth c s₁ B hml hv
  obtain ⟨rfl, hsz, hP, hK, hD0, hO_Row⟩ := hv
  have hx := B.exec
  have hb := B.bytes
  have hr := B.returns
  have hts := atoms_spec (ws := Cond.code y_Book_init b_Book_init 2 none :: xw0) B.pre
  have ht : ∀ w ∈ xw0, w.before _ s = true := fun w h => hts w (List.mem_cons_of_mem _ h)
  have hown : s.vm.findClass R_Book = some m.cls := findClass_of_methodNamed B.named
  have hlocks := B.notSynchronized
  have hin : meth.name = "<init>" := (name_of_methodNamed B.named B.method).1
  subst hsz
  have hD := hD0.self (sz := s.heap.size)
  generalize hAe : va_A [(h0, .inr (2, [.int 0, .int 0, .null, .null, .int 0, .null, .int 0, .null, .int 0, .null, .null, .int 0, .int 0]))] s.heap.size = A at hD ⊢
  have hA : ∀ q : Nat, s.heap.size ≤ q → A q := fun q h => by rw [← hAe]; exact Or.inr h
  have hS : va_S A s.heap s.heap [] := va_S.rf
  have hP : va_P (dC, dI) classes [(h0, .inr (2, [.int 0, .int 0, .null, .null, .int 0, .null, .int 0, .null, .int 0, .null, .null, .int 0, .int 0]))] s.heap := hP
  have hl := lv_entry ([.ref h0]) (n := 2) (Nat.le_of_ble_eq_true rfl)
  rw [lg_entry_eq]
  generalize (lg_sl ([.ref h0]) ++ List.replicate (2 - (lg_sl ([.ref h0])).length) Slot.unset).toArray = ls at hl ⊢
  have hl : lv_has ls 2 [(0, .ref h0)] := hl
  refine lv_aload_n hx hb d_Book_init_0 rfl (lv_at hl 0 rfl) ?_
  refine W.objInit hx hb hown (ht _ k_76) (ht _ k_16) (ht _ k_17) rfl (by rw [hml]; exact hl.1) rfl d_Book_init_1 (Nat.le_of_ble_eq_true rfl) (Nat.le_of_ble_eq_true rfl) ?_
  refine W.eq (g2 := F0 m 4 ls []) rfl ?_
  refine lv_aload_n hx hb d_Book_init_4 rfl (lv_at hl 0 rfl) ?_
  refine lv_iconst (v := (-1)) hx hb d_Book_init_5 (by decide) ?_
  refine va_put (D := (dC, dI)) (ci := 2) (v := .int (-1)) (ty := .int) (C := R_Book) (T := F_Book) (N := 13) hx hb ht i_Book t_Book t_Book_ok n_Book hown hK hP hD hS 0 rfl rfl 0 (by decide) (ht _ k_79) (fun _ h9 => h9) rfl (by decide +kernel) rfl rfl (Nat.le_of_ble_eq_true rfl) d_Book_init_6 (fun H locs hP hD hS => ?_)
  have hP : va_P (dC, dI) classes [(h0, .inr (2, [.int (-1), .int 0, .null, .null, .int 0, .null, .int 0, .null, .int 0, .null, .null, .int 0, .int 0]))] H := hP
  have hD : va_D A [(h0, .inr (2, [.int (-1), .int 0, .null, .null, .int 0, .null, .int 0, .null, .int 0, .null, .null, .int 0, .int 0]))] := hD
  refine lv_aload_n hx hb d_Book_init_9 rfl (lv_at hl 0 rfl) ?_
  refine va_new (ci := 0) (fs := [.null, .int 0, .int 0]) (C := R_Row) (T := F_Row) (N := 3) hx hb ht i_Row t_Row t_Row_ok hown (ht _ k_77) (ht _ k_19) (ht _ k_1) hK hP hD hS hA rfl (fun j hj => by rcases (show j = 0 ∨ j = 1 ∨ j = 2 by omega) with rfl | rfl | rfl <;> rfl) (Nat.le_of_ble_eq_true rfl) (Nat.le_of_ble_eq_true rfl) d_Book_init_10 (fun q1 H hP hD hS => ?_)
  refine W.widen (k := 1) (n := 3) (by omega) (by omega) ?_
  have hP : va_P (dC, dI) classes [(h0, .inr (2, [.int (-1), .int 0, .null, .null, .int 0, .null, .int 0, .null, .int 0, .null, .null, .int 0, .int 0])), (q1, .inr (0, [.null, .int 0, .int 0]))] H := hP
  have hD : va_D A [(h0, .inr (2, [.int (-1), .int 0, .null, .null, .int 0, .null, .int 0, .null, .int 0, .null, .null, .int 0, .int 0])), (q1, .inr (0, [.null, .int 0, .int 0]))] := hD
  refine lv_dup hx hb d_Book_init_13 rfl ?_
  refine lv_bipush (v := (nI 20)) hx hb d_Book_init_14 (by decide) ?_
  have hPc := hP.sub (ws' := [(q1, .inr (0, [.null, .int 0, .int 0]))]) [1] rfl
  have hDc := hD.sub (ws' := [(q1, .inr (0, [.null, .int 0, .int 0]))]) [1] (by decide) rfl
  have hKc := hK.sub (tys' := []) [] rfl
  have hFc := va_free (wc := [(q1, .inr (0, [.null, .int 0, .int 0]))]) hD hS hA [1] rfl
  refine va_callv (va_runI (As := [.int (nI 20)]) (rest := [.ref q1, .ref h0]) ⟨hx, hb, hml, hown, ht⟩ (c_Row_init l dC dI q1 H.size 20 (by decide) (by decide)) (cwI 1 ht (xw_good k_22) rfl rfl rfl (ht _ k_1) (ht _ k_78) (ht _ k_21) rfl (by decide +kernel) ⟨(Nat.le_of_ble_eq_true rfl), (Nat.le_of_ble_eq_true rfl)⟩) ⟨fun a U g mk q => by obtain ⟨q0, q1, qP, qK, qD⟩ := q; exact ⟨q0, q1, qP, va_K.moved (u := U) (U := U.calling g mk a) (Vm.Alike.refl U.vm) qK, qD⟩, fun U hU hW => ⟨rfl, by rw [hU], by rw [hU]; exact hPc, va_K.moved hW.alike hKc, hDc.weaken (fun _ _ _ _ => trivial)⟩⟩ rfl rfl hl.1 rfl (lv_room (Nat.le_of_ble_eq_true rfl)) d_Book_init_16 ⟨(Nat.le_of_ble_eq_true rfl), (Nat.le_of_ble_eq_true rfl)⟩) hS (fun q _ h => hFc q h) hFc (fun u t H1 locs ht9 hvm hw hB hz1 hk1 hS => ?_)
  obtain ⟨q2, cA3, hP1, hK1, hD1⟩ := hB
  rw [ht9] at hP1
  have hK1 := va_K.moved hvm.symm hK1
  obtain ⟨hP, hD⟩ := va_join (wr := [(h0, .inr (2, [.int (-1), .int 0, .null, .null, .int 0, .null, .int 0, .null, .int 0, .null, .null, .int 0, .int 0]))]) (w1 := [(q1, .inr (0, [.ref q2, .int 0, .int 0])), (q2, .inl (cA3, 20, .inl (fun _ => 0)))]) hP hD [1] [0] rfl rfl (by decide) (by decide) hk1 hFc hP1 hD1
  have hK := (hK.sub (tys' := []) [] rfl).app hK1
  generalize H1 = H at hP hS ⊢
  have hP : va_P (dC, dI) classes [(h0, .inr (2, [.int (-1), .int 0, .null, .null, .int 0, .null, .int 0, .null, .int 0, .null, .null, .int 0, .int 0])), (q1, .inr (0, [.ref q2, .int 0, .int 0])), (q2, .inl (cA3, 20, .inl (fun _ => 0)))] H := hP
  have hD : va_D A [(h0, .inr (2, [.int (-1), .int 0, .null, .null, .int 0, .null, .int 0, .null, .int 0, .null, .null, .int 0, .int 0])), (q1, .inr (0, [.ref q2, .int 0, .int 0])), (q2, .inl (cA3, 20, .inl (fun _ => 0)))] := hD
  have hK : va_K (dC, dI) classes [(cA3, .byte)] s := hK
  refine W.widen (k := 2) (n := 23) (by omega) (by omega) ?_
  refine va_putF (D := (dC, dI)) (ci := 2) (v := .ref q1) (ty := .object "AddressHouse$Row") (C := R_Book) (T := F_Book) (N := 13) hx hb ht i_Book t_Book t_Book_ok n_Book hown hK hP hD hS 0 rfl rfl 2 (by decide) (ht _ k_81) (fun _ h9 => h9) rfl hin rfl (by decide +kernel) rfl rfl (Nat.le_of_ble_eq_true rfl) d_Book_init_19 (fun H locs hP hD hS => ?_)
  have hP : va_P (dC, dI) classes [(h0, .inr (2, [.int (-1), .int 0, .ref q1, .null, .int 0, .null, .int 0, .null, .int 0, .null, .null, .int 0, .int 0])), (q1, .inr (0, [.ref q2, .int 0, .int 0])), (q2, .inl (cA3, 20, .inl (fun _ => 0)))] H := hP
  have hD : va_D A [(h0, .inr (2, [.int (-1), .int 0, .ref q1, .null, .int 0, .null, .int 0, .null, .int 0, .null, .null, .int 0, .int 0])), (q1, .inr (0, [.ref q2, .int 0, .int 0])), (q2, .inl (cA3, 20, .inl (fun _ => 0)))] := hD
  refine lv_aload_n hx hb d_Book_init_22 rfl (lv_at hl 0 rfl) ?_
  refine va_new (ci := 0) (fs := [.null, .int 0, .int 0]) (C := R_Row) (T := F_Row) (N := 3) hx hb ht i_Row t_Row t_Row_ok hown (ht _ k_77) (ht _ k_19) (ht _ k_1) hK hP hD hS hA rfl (fun j hj => by rcases (show j = 0 ∨ j = 1 ∨ j = 2 by omega) with rfl | rfl | rfl <;> rfl) (Nat.le_of_ble_eq_true rfl) (Nat.le_of_ble_eq_true rfl) d_Book_init_23 (fun q4 H hP hD hS => ?_)
  refine W.widen (k := 3) (n := 26) (by omega) (by omega) ?_
  have hP : va_P (dC, dI) classes [(h0, .inr (2, [.int (-1), .int 0, .ref q1, .null, .int 0, .null, .int 0, .null, .int 0, .null, .null, .int 0, .int 0])), (q1, .inr (0, [.ref q2, .int 0, .int 0])), (q2, .inl (cA3, 20, .inl (fun _ => 0))), (q4, .inr (0, [.null, .int 0, .int 0]))] H := hP
  have hD : va_D A [(h0, .inr (2, [.int (-1), .int 0, .ref q1, .null, .int 0, .null, .int 0, .null, .int 0, .null, .null, .int 0, .int 0])), (q1, .inr (0, [.ref q2, .int 0, .int 0])), (q2, .inl (cA3, 20, .inl (fun _ => 0))), (q4, .inr (0, [.null, .int 0, .int 0]))] := hD
  refine lv_dup hx hb d_Book_init_26 rfl ?_
  refine lv_bipush (v := (nI 60)) hx hb d_Book_init_27 (by decide) ?_
  have hPc := hP.sub (ws' := [(q4, .inr (0, [.null, .int 0, .int 0]))]) [3] rfl
  have hDc := hD.sub (ws' := [(q4, .inr (0, [.null, .int 0, .int 0]))]) [3] (by decide) rfl
  have hKc := hK.sub (tys' := []) [] rfl
  have hFc := va_free (wc := [(q4, .inr (0, [.null, .int 0, .int 0]))]) hD hS hA [3] rfl
  refine va_callv (va_runI (As := [.int (nI 60)]) (rest := [.ref q4, .ref h0]) ⟨hx, hb, hml, hown, ht⟩ (c_Row_init l dC dI q4 H.size 60 (by decide) (by decide)) (cwI 1 ht (xw_good k_22) rfl rfl rfl (ht _ k_1) (ht _ k_78) (ht _ k_21) rfl (by decide +kernel) ⟨(Nat.le_of_ble_eq_true rfl), (Nat.le_of_ble_eq_true rfl)⟩) ⟨fun a U g mk q => by obtain ⟨q0, q1, qP, qK, qD⟩ := q; exact ⟨q0, q1, qP, va_K.moved (u := U) (U := U.calling g mk a) (Vm.Alike.refl U.vm) qK, qD⟩, fun U hU hW => ⟨rfl, by rw [hU], by rw [hU]; exact hPc, va_K.moved hW.alike hKc, hDc.weaken (fun _ _ _ _ => trivial)⟩⟩ rfl rfl hl.1 rfl (lv_room (Nat.le_of_ble_eq_true rfl)) d_Book_init_29 ⟨(Nat.le_of_ble_eq_true rfl), (Nat.le_of_ble_eq_true rfl)⟩) hS (fun q _ h => hFc q h) hFc (fun u t H1 locs ht9 hvm hw hB hz1 hk1 hS => ?_)
  obtain ⟨q5, cA6, hP1, hK1, hD1⟩ := hB
  rw [ht9] at hP1
  have hK1 := va_K.moved hvm.symm hK1
  obtain ⟨hP, hD⟩ := va_join (wr := [(h0, .inr (2, [.int (-1), .int 0, .ref q1, .null, .int 0, .null, .int 0, .null, .int 0, .null, .null, .int 0, .int 0])), (q1, .inr (0, [.ref q2, .int 0, .int 0])), (q2, .inl (cA3, 20, .inl (fun _ => 0)))]) (w1 := [(q4, .inr (0, [.ref q5, .int 0, .int 0])), (q5, .inl (cA6, 60, .inl (fun _ => 0)))]) hP hD [3] [0, 1, 2] rfl rfl (by decide) (by decide) hk1 hFc hP1 hD1
  have hK := (hK.sub (tys' := [(cA3, .byte)]) [0] rfl).app hK1
  generalize H1 = H at hP hS ⊢
  have hP : va_P (dC, dI) classes [(h0, .inr (2, [.int (-1), .int 0, .ref q1, .null, .int 0, .null, .int 0, .null, .int 0, .null, .null, .int 0, .int 0])), (q1, .inr (0, [.ref q2, .int 0, .int 0])), (q2, .inl (cA3, 20, .inl (fun _ => 0))), (q4, .inr (0, [.ref q5, .int 0, .int 0])), (q5, .inl (cA6, 60, .inl (fun _ => 0)))] H := hP
  have hD : va_D A [(h0, .inr (2, [.int (-1), .int 0, .ref q1, .null, .int 0, .null, .int 0, .null, .int 0, .null, .null, .int 0, .int 0])), (q1, .inr (0, [.ref q2, .int 0, .int 0])), (q2, .inl (cA3, 20, .inl (fun _ => 0))), (q4, .inr (0, [.ref q5, .int 0, .int 0])), (q5, .inl (cA6, 60, .inl (fun _ => 0)))] := hD
  have hK : va_K (dC, dI) classes [(cA3, .byte), (cA6, .byte)] s := hK
  refine W.widen (k := 4) (n := 86) (by omega) (by omega) ?_
  refine va_putF (D := (dC, dI)) (ci := 2) (v := .ref q4) (ty := .object "AddressHouse$Row") (C := R_Book) (T := F_Book) (N := 13) hx hb ht i_Book t_Book t_Book_ok n_Book hown hK hP hD hS 0 rfl rfl 3 (by decide) (ht _ k_82) (fun _ h9 => h9) rfl hin rfl (by decide +kernel) rfl rfl (Nat.le_of_ble_eq_true rfl) d_Book_init_32 (fun H locs hP hD hS => ?_)
  have hP : va_P (dC, dI) classes [(h0, .inr (2, [.int (-1), .int 0, .ref q1, .ref q4, .int 0, .null, .int 0, .null, .int 0, .null, .null, .int 0, .int 0])), (q1, .inr (0, [.ref q2, .int 0, .int 0])), (q2, .inl (cA3, 20, .inl (fun _ => 0))), (q4, .inr (0, [.ref q5, .int 0, .int 0])), (q5, .inl (cA6, 60, .inl (fun _ => 0)))] H := hP
  have hD : va_D A [(h0, .inr (2, [.int (-1), .int 0, .ref q1, .ref q4, .int 0, .null, .int 0, .null, .int 0, .null, .null, .int 0, .int 0])), (q1, .inr (0, [.ref q2, .int 0, .int 0])), (q2, .inl (cA3, 20, .inl (fun _ => 0))), (q4, .inr (0, [.ref q5, .int 0, .int 0])), (q5, .inl (cA6, 60, .inl (fun _ => 0)))] := hD
  refine lv_aload_n hx hb d_Book_init_35 rfl (lv_at hl 0 rfl) ?_
  refine va_new (ci := 0) (fs := [.null, .int 0, .int 0]) (C := R_Row) (T := F_Row) (N := 3) hx hb ht i_Row t_Row t_Row_ok hown (ht _ k_77) (ht _ k_19) (ht _ k_1) hK hP hD hS hA rfl (fun j hj => by rcases (show j = 0 ∨ j = 1 ∨ j = 2 by omega) with rfl | rfl | rfl <;> rfl) (Nat.le_of_ble_eq_true rfl) (Nat.le_of_ble_eq_true rfl) d_Book_init_36 (fun q7 H hP hD hS => ?_)
  refine W.widen (k := 5) (n := 89) (by omega) (by omega) ?_
  have hP : va_P (dC, dI) classes [(h0, .inr (2, [.int (-1), .int 0, .ref q1, .ref q4, .int 0, .null, .int 0, .null, .int 0, .null, .null, .int 0, .int 0])), (q1, .inr (0, [.ref q2, .int 0, .int 0])), (q2, .inl (cA3, 20, .inl (fun _ => 0))), (q4, .inr (0, [.ref q5, .int 0, .int 0])), (q5, .inl (cA6, 60, .inl (fun _ => 0))), (q7, .inr (0, [.null, .int 0, .int 0]))] H := hP
  have hD : va_D A [(h0, .inr (2, [.int (-1), .int 0, .ref q1, .ref q4, .int 0, .null, .int 0, .null, .int 0, .null, .null, .int 0, .int 0])), (q1, .inr (0, [.ref q2, .int 0, .int 0])), (q2, .inl (cA3, 20, .inl (fun _ => 0))), (q4, .inr (0, [.ref q5, .int 0, .int 0])), (q5, .inl (cA6, 60, .inl (fun _ => 0))), (q7, .inr (0, [.null, .int 0, .int 0]))] := hD
  refine lv_dup hx hb d_Book_init_39 rfl ?_
  refine lv_bipush (v := (nI 60)) hx hb d_Book_init_40 (by decide) ?_
  have hPc := hP.sub (ws' := [(q7, .inr (0, [.null, .int 0, .int 0]))]) [5] rfl
  have hDc := hD.sub (ws' := [(q7, .inr (0, [.null, .int 0, .int 0]))]) [5] (by decide) rfl
  have hKc := hK.sub (tys' := []) [] rfl
  have hFc := va_free (wc := [(q7, .inr (0, [.null, .int 0, .int 0]))]) hD hS hA [5] rfl
  refine va_callv (va_runI (As := [.int (nI 60)]) (rest := [.ref q7, .ref h0]) ⟨hx, hb, hml, hown, ht⟩ (c_Row_init l dC dI q7 H.size 60 (by decide) (by decide)) (cwI 1 ht (xw_good k_22) rfl rfl rfl (ht _ k_1) (ht _ k_78) (ht _ k_21) rfl (by decide +kernel) ⟨(Nat.le_of_ble_eq_true rfl), (Nat.le_of_ble_eq_true rfl)⟩) ⟨fun a U g mk q => by obtain ⟨q0, q1, qP, qK, qD⟩ := q; exact ⟨q0, q1, qP, va_K.moved (u := U) (U := U.calling g mk a) (Vm.Alike.refl U.vm) qK, qD⟩, fun U hU hW => ⟨rfl, by rw [hU], by rw [hU]; exact hPc, va_K.moved hW.alike hKc, hDc.weaken (fun _ _ _ _ => trivial)⟩⟩ rfl rfl hl.1 rfl (lv_room (Nat.le_of_ble_eq_true rfl)) d_Book_init_42 ⟨(Nat.le_of_ble_eq_true rfl), (Nat.le_of_ble_eq_true rfl)⟩) hS (fun q _ h => hFc q h) hFc (fun u t H1 locs ht9 hvm hw hB hz1 hk1 hS => ?_)
  obtain ⟨q8, cA9, hP1, hK1, hD1⟩ := hB
  rw [ht9] at hP1
  have hK1 := va_K.moved hvm.symm hK1
  obtain ⟨hP, hD⟩ := va_join (wr := [(h0, .inr (2, [.int (-1), .int 0, .ref q1, .ref q4, .int 0, .null, .int 0, .null, .int 0, .null, .null, .int 0, .int 0])), (q1, .inr (0, [.ref q2, .int 0, .int 0])), (q2, .inl (cA3, 20, .inl (fun _ => 0))), (q4, .inr (0, [.ref q5, .int 0, .int 0])), (q5, .inl (cA6, 60, .inl (fun _ => 0)))]) (w1 := [(q7, .inr (0, [.ref q8, .int 0, .int 0])), (q8, .inl (cA9, 60, .inl (fun _ => 0)))]) hP hD [5] [0, 1, 2, 3, 4] rfl rfl (by decide) (by decide) hk1 hFc hP1 hD1
  have hK := (hK.sub (tys' := [(cA3, .byte), (cA6, .byte)]) [0, 1] rfl).app hK1
  generalize H1 = H at hP hS ⊢
  have hP : va_P (dC, dI) classes [(h0, .inr (2, [.int (-1), .int 0, .ref q1, .ref q4, .int 0, .null, .int 0, .null, .int 0, .null, .null, .int 0, .int 0])), (q1, .inr (0, [.ref q2, .int 0, .int 0])), (q2, .inl (cA3, 20, .inl (fun _ => 0))), (q4, .inr (0, [.ref q5, .int 0, .int 0])), (q5, .inl (cA6, 60, .inl (fun _ => 0))), (q7, .inr (0, [.ref q8, .int 0, .int 0])), (q8, .inl (cA9, 60, .inl (fun _ => 0)))] H := hP
  have hD : va_D A [(h0, .inr (2, [.int (-1), .int 0, .ref q1, .ref q4, .int 0, .null, .int 0, .null, .int 0, .null, .null, .int 0, .int 0])), (q1, .inr (0, [.ref q2, .int 0, .int 0])), (q2, .inl (cA3, 20, .inl (fun _ => 0))), (q4, .inr (0, [.ref q5, .int 0, .int 0])), (q5, .inl (cA6, 60, .inl (fun _ => 0))), (q7, .inr (0, [.ref q8, .int 0, .int 0])), (q8, .inl (cA9, 60, .inl (fun _ => 0)))] := hD
  have hK : va_K (dC, dI) classes [(cA3, .byte), (cA6, .byte), (cA9, .byte)] s := hK
  refine W.widen (k := 6) (n := 149) (by omega) (by omega) ?_
  refine va_putF (D := (dC, dI)) (ci := 2) (v := .ref q7) (ty := .object "AddressHouse$Row") (C := R_Book) (T := F_Book) (N := 13) hx hb ht i_Book t_Book t_Book_ok n_Book hown hK hP hD hS 0 rfl rfl 5 (by decide) (ht _ k_83) (fun _ h9 => h9) rfl hin rfl (by decide +kernel) rfl rfl (Nat.le_of_ble_eq_true rfl) d_Book_init_45 (fun H locs hP hD hS => ?_)
  have hP : va_P (dC, dI) classes [(h0, .inr (2, [.int (-1), .int 0, .ref q1, .ref q4, .int 0, .ref q7, .int 0, .null, .int 0, .null, .null, .int 0, .int 0])), (q1, .inr (0, [.ref q2, .int 0, .int 0])), (q2, .inl (cA3, 20, .inl (fun _ => 0))), (q4, .inr (0, [.ref q5, .int 0, .int 0])), (q5, .inl (cA6, 60, .inl (fun _ => 0))), (q7, .inr (0, [.ref q8, .int 0, .int 0])), (q8, .inl (cA9, 60, .inl (fun _ => 0)))] H := hP
  have hD : va_D A [(h0, .inr (2, [.int (-1), .int 0, .ref q1, .ref q4, .int 0, .ref q7, .int 0, .null, .int 0, .null, .null, .int 0, .int 0])), (q1, .inr (0, [.ref q2, .int 0, .int 0])), (q2, .inl (cA3, 20, .inl (fun _ => 0))), (q4, .inr (0, [.ref q5, .int 0, .int 0])), (q5, .inl (cA6, 60, .inl (fun _ => 0))), (q7, .inr (0, [.ref q8, .int 0, .int 0])), (q8, .inl (cA9, 60, .inl (fun _ => 0)))] := hD
  refine lv_aload_n hx hb d_Book_init_48 rfl (lv_at hl 0 rfl) ?_
  refine lv_iconst (v := (nI 4)) hx hb d_Book_init_49 (by decide) ?_
  refine va_newa (atype := .int) (ty := .int) (a0 := (4, .inl (fun _ => 0))) hx hb (ht _ k_62) rfl hK hP hD hS hA (fun _ => rfl) (nI_pos (by decide)) (nI_clamp (by decide)) (by decide) (Nat.le_of_ble_eq_true rfl) (Nat.le_of_ble_eq_true rfl) d_Book_init_50 (fun q10 cA11 H hK hP hD hS => ?_)
  refine W.widen (k := 7) (n := 153) (by omega) (by omega) ?_
  have hP : va_P (dC, dI) classes [(h0, .inr (2, [.int (-1), .int 0, .ref q1, .ref q4, .int 0, .ref q7, .int 0, .null, .int 0, .null, .null, .int 0, .int 0])), (q1, .inr (0, [.ref q2, .int 0, .int 0])), (q2, .inl (cA3, 20, .inl (fun _ => 0))), (q4, .inr (0, [.ref q5, .int 0, .int 0])), (q5, .inl (cA6, 60, .inl (fun _ => 0))), (q7, .inr (0, [.ref q8, .int 0, .int 0])), (q8, .inl (cA9, 60, .inl (fun _ => 0))), (q10, .inl (cA11, 4, .inl (fun _ => 0)))] H := hP
  have hD : va_D A [(h0, .inr (2, [.int (-1), .int 0, .ref q1, .ref q4, .int 0, .ref q7, .int 0, .null, .int 0, .null, .null, .int 0, .int 0])), (q1, .inr (0, [.ref q2, .int 0, .int 0])), (q2, .inl (cA3, 20, .inl (fun _ => 0))), (q4, .inr (0, [.ref q5, .int 0, .int 0])), (q5, .inl (cA6, 60, .inl (fun _ => 0))), (q7, .inr (0, [.ref q8, .int 0, .int 0])), (q8, .inl (cA9, 60, .inl (fun _ => 0))), (q10, .inl (cA11, 4, .inl (fun _ => 0)))] := hD
  have hK : va_K (dC, dI) classes [(cA3, .byte), (cA6, .byte), (cA9, .byte), (cA11, .int)] s := hK
  refine va_putF (D := (dC, dI)) (ci := 2) (v := .ref q10) (ty := .array .int) (C := R_Book) (T := F_Book) (N := 13) hx hb ht i_Book t_Book t_Book_ok n_Book hown hK hP hD hS 0 rfl rfl 7 (by decide) (ht _ k_84) (fun _ h9 => h9) rfl hin rfl (by decide +kernel) rfl rfl (Nat.le_of_ble_eq_true rfl) d_Book_init_52 (fun H locs hP hD hS => ?_)
  have hP : va_P (dC, dI) classes [(h0, .inr (2, [.int (-1), .int 0, .ref q1, .ref q4, .int 0, .ref q7, .int 0, .ref q10, .int 0, .null, .null, .int 0, .int 0])), (q1, .inr (0, [.ref q2, .int 0, .int 0])), (q2, .inl (cA3, 20, .inl (fun _ => 0))), (q4, .inr (0, [.ref q5, .int 0, .int 0])), (q5, .inl (cA6, 60, .inl (fun _ => 0))), (q7, .inr (0, [.ref q8, .int 0, .int 0])), (q8, .inl (cA9, 60, .inl (fun _ => 0))), (q10, .inl (cA11, 4, .inl (fun _ => 0)))] H := hP
  have hD : va_D A [(h0, .inr (2, [.int (-1), .int 0, .ref q1, .ref q4, .int 0, .ref q7, .int 0, .ref q10, .int 0, .null, .null, .int 0, .int 0])), (q1, .inr (0, [.ref q2, .int 0, .int 0])), (q2, .inl (cA3, 20, .inl (fun _ => 0))), (q4, .inr (0, [.ref q5, .int 0, .int 0])), (q5, .inl (cA6, 60, .inl (fun _ => 0))), (q7, .inr (0, [.ref q8, .int 0, .int 0])), (q8, .inl (cA9, 60, .inl (fun _ => 0))), (q10, .inl (cA11, 4, .inl (fun _ => 0)))] := hD
  refine lv_aload_n hx hb d_Book_init_55 rfl (lv_at hl 0 rfl) ?_
  refine lv_bipush (v := (nI 20)) hx hb d_Book_init_56 (by decide) ?_
  refine va_newq hx hb hown (ht _ k_77) hO_Row hK hP hD hS hA (nI_pos (by decide)) (nI_clamp (by decide)) (by decide) (Nat.le_of_ble_eq_true rfl) (Nat.le_of_ble_eq_true rfl) d_Book_init_58 (fun q12 cA13 H hK hP hD hS => ?_)
  refine W.widen (k := 8) (n := 173) (by omega) (by omega) ?_
  have hP : va_P (dC, dI) classes [(h0, .inr (2, [.int (-1), .int 0, .ref q1, .ref q4, .int 0, .ref q7, .int 0, .ref q10, .int 0, .null, .null, .int 0, .int 0])), (q1, .inr (0, [.ref q2, .int 0, .int 0])), (q2, .inl (cA3, 20, .inl (fun _ => 0))), (q4, .inr (0, [.ref q5, .int 0, .int 0])), (q5, .inl (cA6, 60, .inl (fun _ => 0))), (q7, .inr (0, [.ref q8, .int 0, .int 0])), (q8, .inl (cA9, 60, .inl (fun _ => 0))), (q10, .inl (cA11, 4, .inl (fun _ => 0))), (q12, .inl (cA13, 20, .inr (.inr (.inr (.inr (fun _ => none))))))] H := hP
  have hD : va_D A [(h0, .inr (2, [.int (-1), .int 0, .ref q1, .ref q4, .int 0, .ref q7, .int 0, .ref q10, .int 0, .null, .null, .int 0, .int 0])), (q1, .inr (0, [.ref q2, .int 0, .int 0])), (q2, .inl (cA3, 20, .inl (fun _ => 0))), (q4, .inr (0, [.ref q5, .int 0, .int 0])), (q5, .inl (cA6, 60, .inl (fun _ => 0))), (q7, .inr (0, [.ref q8, .int 0, .int 0])), (q8, .inl (cA9, 60, .inl (fun _ => 0))), (q10, .inl (cA11, 4, .inl (fun _ => 0))), (q12, .inl (cA13, 20, .inr (.inr (.inr (.inr (fun _ => none))))))] := hD
  have hK : va_K (dC, dI) classes [(cA3, .byte), (cA6, .byte), (cA9, .byte), (cA11, .int), (cA13, .object R_Row)] s := hK
  refine va_putF (D := (dC, dI)) (ci := 2) (v := .ref q12) (ty := .array (.object "AddressHouse$Row")) (C := R_Book) (T := F_Book) (N := 13) hx hb ht i_Book t_Book t_Book_ok n_Book hown hK hP hD hS 0 rfl rfl 9 (by decide) (ht _ k_85) (fun _ h9 => h9) rfl hin rfl (by decide +kernel) rfl rfl (Nat.le_of_ble_eq_true rfl) d_Book_init_61 (fun H locs hP hD hS => ?_)
  have hP : va_P (dC, dI) classes [(h0, .inr (2, [.int (-1), .int 0, .ref q1, .ref q4, .int 0, .ref q7, .int 0, .ref q10, .int 0, .ref q12, .null, .int 0, .int 0])), (q1, .inr (0, [.ref q2, .int 0, .int 0])), (q2, .inl (cA3, 20, .inl (fun _ => 0))), (q4, .inr (0, [.ref q5, .int 0, .int 0])), (q5, .inl (cA6, 60, .inl (fun _ => 0))), (q7, .inr (0, [.ref q8, .int 0, .int 0])), (q8, .inl (cA9, 60, .inl (fun _ => 0))), (q10, .inl (cA11, 4, .inl (fun _ => 0))), (q12, .inl (cA13, 20, .inr (.inr (.inr (.inr (fun _ => none))))))] H := hP
  have hD : va_D A [(h0, .inr (2, [.int (-1), .int 0, .ref q1, .ref q4, .int 0, .ref q7, .int 0, .ref q10, .int 0, .ref q12, .null, .int 0, .int 0])), (q1, .inr (0, [.ref q2, .int 0, .int 0])), (q2, .inl (cA3, 20, .inl (fun _ => 0))), (q4, .inr (0, [.ref q5, .int 0, .int 0])), (q5, .inl (cA6, 60, .inl (fun _ => 0))), (q7, .inr (0, [.ref q8, .int 0, .int 0])), (q8, .inl (cA9, 60, .inl (fun _ => 0))), (q10, .inl (cA11, 4, .inl (fun _ => 0))), (q12, .inl (cA13, 20, .inr (.inr (.inr (.inr (fun _ => none))))))] := hD
  refine lv_iconst (v := (nI 0)) hx hb d_Book_init_64 (by decide) ?_
  refine lv_istore_n (lv' := [(1, .int (nI 0)), (0, .ref h0)]) hx hb d_Book_init_65 rfl hl (by decide) rfl (fun ls hl => ?_)
  refine lv_iload_n hx hb d_Book_init_66 rfl (lv_at hl 0 rfl) ?_
  refine lv_bipush (v := (nI 20)) hx hb d_Book_init_67 (by decide) ?_
  refine lv_icmp_ge (tgt := 93) hx hb d_Book_init_69 (by decide) (fun c_69 => absurd c_69 (by decide)) (fun _ => ?_)
  refine lv_aload_n hx hb d_Book_init_72 rfl (lv_at hl 1 rfl) ?_
  refine va_get (D := (dC, dI)) (ci := 2) (v := .ref q12) (C := R_Book) (T := F_Book) (N := 13) hx hb ht i_Book hown hK hP 0 rfl rfl 9 (by decide) (ht _ k_85) (fun _ h9 => h9) rfl d_Book_init_73 ?_
  refine lv_iload_n hx hb d_Book_init_76 rfl (lv_at hl 0 rfl) ?_
  refine va_new (ci := 0) (fs := [.null, .int 0, .int 0]) (C := R_Row) (T := F_Row) (N := 3) hx hb ht i_Row t_Row t_Row_ok hown (ht _ k_77) (ht _ k_19) (ht _ k_1) hK hP hD hS hA rfl (fun j hj => by rcases (show j = 0 ∨ j = 1 ∨ j = 2 by omega) with rfl | rfl | rfl <;> rfl) (Nat.le_of_ble_eq_true rfl) (Nat.le_of_ble_eq_true rfl) d_Book_init_77 (fun q14 H hP hD hS => ?_)
  refine W.widen (k := 9) (n := 176) (by omega) (by omega) ?_
  have hP : va_P (dC, dI) classes [(h0, .inr (2, [.int (-1), .int 0, .ref q1, .ref q4, .int 0, .ref q7, .int 0, .ref q10, .int 0, .ref q12, .null, .int 0, .int 0])), (q1, .inr (0, [.ref q2, .int 0, .int 0])), (q2, .inl (cA3, 20, .inl (fun _ => 0))), (q4, .inr (0, [.ref q5, .int 0, .int 0])), (q5, .inl (cA6, 60, .inl (fun _ => 0))), (q7, .inr (0, [.ref q8, .int 0, .int 0])), (q8, .inl (cA9, 60, .inl (fun _ => 0))), (q10, .inl (cA11, 4, .inl (fun _ => 0))), (q12, .inl (cA13, 20, .inr (.inr (.inr (.inr (fun _ => none)))))), (q14, .inr (0, [.null, .int 0, .int 0]))] H := hP
  have hD : va_D A [(h0, .inr (2, [.int (-1), .int 0, .ref q1, .ref q4, .int 0, .ref q7, .int 0, .ref q10, .int 0, .ref q12, .null, .int 0, .int 0])), (q1, .inr (0, [.ref q2, .int 0, .int 0])), (q2, .inl (cA3, 20, .inl (fun _ => 0))), (q4, .inr (0, [.ref q5, .int 0, .int 0])), (q5, .inl (cA6, 60, .inl (fun _ => 0))), (q7, .inr (0, [.ref q8, .int 0, .int 0])), (q8, .inl (cA9, 60, .inl (fun _ => 0))), (q10, .inl (cA11, 4, .inl (fun _ => 0))), (q12, .inl (cA13, 20, .inr (.inr (.inr (.inr (fun _ => none)))))), (q14, .inr (0, [.null, .int 0, .int 0]))] := hD
  refine lv_dup hx hb d_Book_init_80 rfl ?_
  refine lv_bipush (v := (nI 20)) hx hb d_Book_init_81 (by decide) ?_
  have hPc := hP.sub (ws' := [(q14, .inr (0, [.null, .int 0, .int 0]))]) [9] rfl
  have hDc := hD.sub (ws' := [(q14, .inr (0, [.null, .int 0, .int 0]))]) [9] (by decide) rfl
  have hKc := hK.sub (tys' := []) [] rfl
  have hFc := va_free (wc := [(q14, .inr (0, [.null, .int 0, .int 0]))]) hD hS hA [9] rfl
  refine va_callv (va_runI (As := [.int (nI 20)]) (rest := [.ref q14, .int (nI 0), .ref q12]) ⟨hx, hb, hml, hown, ht⟩ (c_Row_init l dC dI q14 H.size 20 (by decide) (by decide)) (cwI 1 ht (xw_good k_22) rfl rfl rfl (ht _ k_1) (ht _ k_78) (ht _ k_21) rfl (by decide +kernel) ⟨(Nat.le_of_ble_eq_true rfl), (Nat.le_of_ble_eq_true rfl)⟩) ⟨fun a U g mk q => by obtain ⟨q0, q1, qP, qK, qD⟩ := q; exact ⟨q0, q1, qP, va_K.moved (u := U) (U := U.calling g mk a) (Vm.Alike.refl U.vm) qK, qD⟩, fun U hU hW => ⟨rfl, by rw [hU], by rw [hU]; exact hPc, va_K.moved hW.alike hKc, hDc.weaken (fun _ _ _ _ => trivial)⟩⟩ rfl rfl hl.1 rfl (lv_room (Nat.le_of_ble_eq_true rfl)) d_Book_init_83 ⟨(Nat.le_of_ble_eq_true rfl), (Nat.le_of_ble_eq_true rfl)⟩) hS (fun q _ h => hFc q h) hFc (fun u t H1 locs ht9 hvm hw hB hz1 hk1 hS => ?_)
  obtain ⟨q15, cA16, hP1, hK1, hD1⟩ := hB
  rw [ht9] at hP1
  have hK1 := va_K.moved hvm.symm hK1
  obtain ⟨hP, hD⟩ := va_join (wr := [(h0, .inr (2, [.int (-1), .int 0, .ref q1, .ref q4, .int 0, .ref q7, .int 0, .ref q10, .int 0, .ref q12, .null, .int 0, .int 0])), (q1, .inr (0, [.ref q2, .int 0, .int 0])), (q2, .inl (cA3, 20, .inl (fun _ => 0))), (q4, .inr (0, [.ref q5, .int 0, .int 0])), (q5, .inl (cA6, 60, .inl (fun _ => 0))), (q7, .inr (0, [.ref q8, .int 0, .int 0])), (q8, .inl (cA9, 60, .inl (fun _ => 0))), (q10, .inl (cA11, 4, .inl (fun _ => 0))), (q12, .inl (cA13, 20, .inr (.inr (.inr (.inr (fun _ => none))))))]) (w1 := [(q14, .inr (0, [.ref q15, .int 0, .int 0])), (q15, .inl (cA16, 20, .inl (fun _ => 0)))]) hP hD [9] [0, 1, 2, 3, 4, 5, 6, 7, 8] rfl rfl (by decide) (by decide) hk1 hFc hP1 hD1
  have hK := (hK.sub (tys' := [(cA3, .byte), (cA6, .byte), (cA9, .byte), (cA11, .int), (cA13, .object R_Row)]) [0, 1, 2, 3, 4] rfl).app hK1
  generalize H1 = H at hP hS ⊢
  have hP : va_P (dC, dI) classes [(h0, .inr (2, [.int (-1), .int 0, .ref q1, .ref q4, .int 0, .ref q7, .int 0, .ref q10, .int 0, .ref q12, .null, .int 0, .int 0])), (q1, .inr (0, [.ref q2, .int 0, .int 0])), (q2, .inl (cA3, 20, .inl (fun _ => 0))), (q4, .inr (0, [.ref q5, .int 0, .int 0])), (q5, .inl (cA6, 60, .inl (fun _ => 0))), (q7, .inr (0, [.ref q8, .int 0, .int 0])), (q8, .inl (cA9, 60, .inl (fun _ => 0))), (q10, .inl (cA11, 4, .inl (fun _ => 0))), (q12, .inl (cA13, 20, .inr (.inr (.inr (.inr (fun _ => none)))))), (q14, .inr (0, [.ref q15, .int 0, .int 0])), (q15, .inl (cA16, 20, .inl (fun _ => 0)))] H := hP
  have hD : va_D A [(h0, .inr (2, [.int (-1), .int 0, .ref q1, .ref q4, .int 0, .ref q7, .int 0, .ref q10, .int 0, .ref q12, .null, .int 0, .int 0])), (q1, .inr (0, [.ref q2, .int 0, .int 0])), (q2, .inl (cA3, 20, .inl (fun _ => 0))), (q4, .inr (0, [.ref q5, .int 0, .int 0])), (q5, .inl (cA6, 60, .inl (fun _ => 0))), (q7, .inr (0, [.ref q8, .int 0, .int 0])), (q8, .inl (cA9, 60, .inl (fun _ => 0))), (q10, .inl (cA11, 4, .inl (fun _ => 0))), (q12, .inl (cA13, 20, .inr (.inr (.inr (.inr (fun _ => none)))))), (q14, .inr (0, [.ref q15, .int 0, .int 0])), (q15, .inl (cA16, 20, .inl (fun _ => 0)))] := hD
  have hK : va_K (dC, dI) classes [(cA3, .byte), (cA6, .byte), (cA9, .byte), (cA11, .int), (cA13, .object R_Row), (cA16, .byte)] s := hK
  refine W.widen (k := 10) (n := 196) (by omega) (by omega) ?_
  refine va_astq hx hb hK hP hD hS 8 4 9 0 rfl rfl rfl rfl (vp_in_nI (by decide) (by decide)) d_Book_init_86 (fun H locs hP hD hS => ?_)
  rw [nI_clamp (by decide)] at hP hD
  have hP : va_P (dC, dI) classes [(h0, .inr (2, [.int (-1), .int 0, .ref q1, .ref q4, .int 0, .ref q7, .int 0, .ref q10, .int 0, .ref q12, .null, .int 0, .int 0])), (q1, .inr (0, [.ref q2, .int 0, .int 0])), (q2, .inl (cA3, 20, .inl (fun _ => 0))), (q4, .inr (0, [.ref q5, .int 0, .int 0])), (q5, .inl (cA6, 60, .inl (fun _ => 0))), (q7, .inr (0, [.ref q8, .int 0, .int 0])), (q8, .inl (cA9, 60, .inl (fun _ => 0))), (q10, .inl (cA11, 4, .inl (fun _ => 0))), (q12, .inl (cA13, 20, .inr (.inr (.inr (.inr (va_up (fun _ => none) 0 (some q14))))))), (q14, .inr (0, [.ref q15, .int 0, .int 0])), (q15, .inl (cA16, 20, .inl (fun _ => 0)))] H := hP
  have hD : va_D A [(h0, .inr (2, [.int (-1), .int 0, .ref q1, .ref q4, .int 0, .ref q7, .int 0, .ref q10, .int 0, .ref q12, .null, .int 0, .int 0])), (q1, .inr (0, [.ref q2, .int 0, .int 0])), (q2, .inl (cA3, 20, .inl (fun _ => 0))), (q4, .inr (0, [.ref q5, .int 0, .int 0])), (q5, .inl (cA6, 60, .inl (fun _ => 0))), (q7, .inr (0, [.ref q8, .int 0, .int 0])), (q8, .inl (cA9, 60, .inl (fun _ => 0))), (q10, .inl (cA11, 4, .inl (fun _ => 0))), (q12, .inl (cA13, 20, .inr (.inr (.inr (.inr (va_up (fun _ => none) 0 (some q14))))))), (q14, .inr (0, [.ref q15, .int 0, .int 0])), (q15, .inl (cA16, 20, .inl (fun _ => 0)))] := hD
  have hP := hP.sub (ws' := [(h0, .inr (2, [.int (-1), .int 0, .ref q1, .ref q4, .int 0, .ref q7, .int 0, .ref q10, .int 0, .ref q12, .null, .int 0, .int 0])), (q12, .inl (cA13, 20, .inr (.inr (.inr (.inr (va_up (fun _ => none) 0 (some q14)))))))]) [0, 8] rfl
  have hD := hD.sub (ws' := [(h0, .inr (2, [.int (-1), .int 0, .ref q1, .ref q4, .int 0, .ref q7, .int 0, .ref q10, .int 0, .ref q12, .null, .int 0, .int 0])), (q12, .inl (cA13, 20, .inr (.inr (.inr (.inr (va_up (fun _ => none) 0 (some q14)))))))]) [0, 8] (by decide) rfl
  have hK := hK.sub (tys' := [(cA13, .object R_Row)]) [4] rfl
  refine lv_iinc (v := (nI 1)) (lv' := [(1, .int (nI 1)), (0, .ref h0)]) hx hb d_Book_init_87 hl (k := 0) rfl (by decide) (by decide) rfl (fun ls hl => ?_)
  refine lv_goto (tgt := 66) hx hb d_Book_init_90 (by decide) ?_
  refine lv_iload_n hx hb d_Book_init_66 rfl (lv_at hl 0 rfl) ?_
  refine lv_bipush (v := (nI 20)) hx hb d_Book_init_67 (by decide) ?_
  refine lv_icmp_ge (tgt := 93) hx hb d_Book_init_69 (by decide) (fun c_69 => absurd c_69 (by decide)) (fun _ => ?_)
  refine lv_aload_n hx hb d_Book_init_72 rfl (lv_at hl 1 rfl) ?_
  refine va_get (D := (dC, dI)) (ci := 2) (v := .ref q12) (C := R_Book) (T := F_Book) (N := 13) hx hb ht i_Book hown hK hP 0 rfl rfl 9 (by decide) (ht _ k_85) (fun _ h9 => h9) rfl d_Book_init_73 ?_
  refine lv_iload_n hx hb d_Book_init_76 rfl (lv_at hl 0 rfl) ?_
  refine va_new (ci := 0) (fs := [.null, .int 0, .int 0]) (C := R_Row) (T := F_Row) (N := 3) hx hb ht i_Row t_Row t_Row_ok hown (ht _ k_77) (ht _ k_19) (ht _ k_1) hK hP hD hS hA rfl (fun j hj => by rcases (show j = 0 ∨ j = 1 ∨ j = 2 by omega) with rfl | rfl | rfl <;> rfl) (Nat.le_of_ble_eq_true rfl) (Nat.le_of_ble_eq_true rfl) d_Book_init_77 (fun q17 H hP hD hS => ?_)
  refine W.widen (k := 11) (n := 199) (by omega) (by omega) ?_
  have hP : va_P (dC, dI) classes [(h0, .inr (2, [.int (-1), .int 0, .ref q1, .ref q4, .int 0, .ref q7, .int 0, .ref q10, .int 0, .ref q12, .null, .int 0, .int 0])), (q12, .inl (cA13, 20, .inr (.inr (.inr (.inr (va_up (fun _ => none) 0 (some q14))))))), (q17, .inr (0, [.null, .int 0, .int 0]))] H := hP
  have hD : va_D A [(h0, .inr (2, [.int (-1), .int 0, .ref q1, .ref q4, .int 0, .ref q7, .int 0, .ref q10, .int 0, .ref q12, .null, .int 0, .int 0])), (q12, .inl (cA13, 20, .inr (.inr (.inr (.inr (va_up (fun _ => none) 0 (some q14))))))), (q17, .inr (0, [.null, .int 0, .int 0]))] := hD
  refine lv_dup hx hb d_Book_init_80 rfl ?_
  refine lv_bipush (v := (nI 20)) hx hb d_Book_init_81 (by decide) ?_
  have hPc := hP.sub (ws' := [(q17, .inr (0, [.null, .int 0, .int 0]))]) [2] rfl
  have hDc := hD.sub (ws' := [(q17, .inr (0, [.null, .int 0, .int 0]))]) [2] (by decide) rfl
  have hKc := hK.sub (tys' := []) [] rfl
  have hFc := va_free (wc := [(q17, .inr (0, [.null, .int 0, .int 0]))]) hD hS hA [2] rfl
  refine va_callv (va_runI (As := [.int (nI 20)]) (rest := [.ref q17, .int (nI 1), .ref q12]) ⟨hx, hb, hml, hown, ht⟩ (c_Row_init l dC dI q17 H.size 20 (by decide) (by decide)) (cwI 1 ht (xw_good k_22) rfl rfl rfl (ht _ k_1) (ht _ k_78) (ht _ k_21) rfl (by decide +kernel) ⟨(Nat.le_of_ble_eq_true rfl), (Nat.le_of_ble_eq_true rfl)⟩) ⟨fun a U g mk q => by obtain ⟨q0, q1, qP, qK, qD⟩ := q; exact ⟨q0, q1, qP, va_K.moved (u := U) (U := U.calling g mk a) (Vm.Alike.refl U.vm) qK, qD⟩, fun U hU hW => ⟨rfl, by rw [hU], by rw [hU]; exact hPc, va_K.moved hW.alike hKc, hDc.weaken (fun _ _ _ _ => trivial)⟩⟩ rfl rfl hl.1 rfl (lv_room (Nat.le_of_ble_eq_true rfl)) d_Book_init_83 ⟨(Nat.le_of_ble_eq_true rfl), (Nat.le_of_ble_eq_true rfl)⟩) hS (fun q _ h => hFc q h) hFc (fun u t H1 locs ht9 hvm hw hB hz1 hk1 hS => ?_)
  obtain ⟨q18, cA19, hP1, hK1, hD1⟩ := hB
  rw [ht9] at hP1
  have hK1 := va_K.moved hvm.symm hK1
  obtain ⟨hP, hD⟩ := va_join (wr := [(h0, .inr (2, [.int (-1), .int 0, .ref q1, .ref q4, .int 0, .ref q7, .int 0, .ref q10, .int 0, .ref q12, .null, .int 0, .int 0])), (q12, .inl (cA13, 20, .inr (.inr (.inr (.inr (va_up (fun _ => none) 0 (some q14)))))))]) (w1 := [(q17, .inr (0, [.ref q18, .int 0, .int 0])), (q18, .inl (cA19, 20, .inl (fun _ => 0)))]) hP hD [2] [0, 1] rfl rfl (by decide) (by decide) hk1 hFc hP1 hD1
  have hK := (hK.sub (tys' := [(cA13, .object R_Row)]) [0] rfl).app hK1
  generalize H1 = H at hP hS ⊢
  have hP : va_P (dC, dI) classes [(h0, .inr (2, [.int (-1), .int 0, .ref q1, .ref q4, .int 0, .ref q7, .int 0, .ref q10, .int 0, .ref q12, .null, .int 0, .int 0])), (q12, .inl (cA13, 20, .inr (.inr (.inr (.inr (va_up (fun _ => none) 0 (some q14))))))), (q17, .inr (0, [.ref q18, .int 0, .int 0])), (q18, .inl (cA19, 20, .inl (fun _ => 0)))] H := hP
  have hD : va_D A [(h0, .inr (2, [.int (-1), .int 0, .ref q1, .ref q4, .int 0, .ref q7, .int 0, .ref q10, .int 0, .ref q12, .null, .int 0, .int 0])), (q12, .inl (cA13, 20, .inr (.inr (.inr (.inr (va_up (fun _ => none) 0 (some q14))))))), (q17, .inr (0, [.ref q18, .int 0, .int 0])), (q18, .inl (cA19, 20, .inl (fun _ => 0)))] := hD
  have hK : va_K (dC, dI) classes [(cA13, .object R_Row), (cA19, .byte)] s := hK
  refine W.widen (k := 12) (n := 219) (by omega) (by omega) ?_
  refine va_astq hx hb hK hP hD hS 1 0 2 0 rfl rfl rfl rfl (vp_in_nI (by decide) (by decide)) d_Book_init_86 (fun H locs hP hD hS => ?_)
  rw [nI_clamp (by decide)] at hP hD
  have hP : va_P (dC, dI) classes [(h0, .inr (2, [.int (-1), .int 0, .ref q1, .ref q4, .int 0, .ref q7, .int 0, .ref q10, .int 0, .ref q12, .null, .int 0, .int 0])), (q12, .inl (cA13, 20, .inr (.inr (.inr (.inr (va_up (va_up (fun _ => none) 0 (some q14)) 1 (some q17))))))), (q17, .inr (0, [.ref q18, .int 0, .int 0])), (q18, .inl (cA19, 20, .inl (fun _ => 0)))] H := hP
  have hD : va_D A [(h0, .inr (2, [.int (-1), .int 0, .ref q1, .ref q4, .int 0, .ref q7, .int 0, .ref q10, .int 0, .ref q12, .null, .int 0, .int 0])), (q12, .inl (cA13, 20, .inr (.inr (.inr (.inr (va_up (va_up (fun _ => none) 0 (some q14)) 1 (some q17))))))), (q17, .inr (0, [.ref q18, .int 0, .int 0])), (q18, .inl (cA19, 20, .inl (fun _ => 0)))] := hD
  have hP := hP.sub (ws' := [(h0, .inr (2, [.int (-1), .int 0, .ref q1, .ref q4, .int 0, .ref q7, .int 0, .ref q10, .int 0, .ref q12, .null, .int 0, .int 0])), (q12, .inl (cA13, 20, .inr (.inr (.inr (.inr (va_up (va_up (fun _ => none) 0 (some q14)) 1 (some q17)))))))]) [0, 1] rfl
  have hD := hD.sub (ws' := [(h0, .inr (2, [.int (-1), .int 0, .ref q1, .ref q4, .int 0, .ref q7, .int 0, .ref q10, .int 0, .ref q12, .null, .int 0, .int 0])), (q12, .inl (cA13, 20, .inr (.inr (.inr (.inr (va_up (va_up (fun _ => none) 0 (some q14)) 1 (some q17)))))))]) [0, 1] (by decide) rfl
  have hK := hK.sub (tys' := [(cA13, .object R_Row)]) [0] rfl
  refine lv_iinc (v := (nI 2)) (lv' := [(1, .int (nI 2)), (0, .ref h0)]) hx hb d_Book_init_87 hl (k := 0) rfl (by decide) (by decide) rfl (fun ls hl => ?_)
  refine lv_goto (tgt := 66) hx hb d_Book_init_90 (by decide) ?_
  refine lv_iload_n hx hb d_Book_init_66 rfl (lv_at hl 0 rfl) ?_
  refine lv_bipush (v := (nI 20)) hx hb d_Book_init_67 (by decide) ?_
  refine lv_icmp_ge (tgt := 93) hx hb d_Book_init_69 (by decide) (fun c_69 => absurd c_69 (by decide)) (fun _ => ?_)
  refine lv_aload_n hx hb d_Book_init_72 rfl (lv_at hl 1 rfl) ?_
  refine va_get (D := (dC, dI)) (ci := 2) (v := .ref q12) (C := R_Book) (T := F_Book) (N := 13) hx hb ht i_Book hown hK hP 0 rfl rfl 9 (by decide) (ht _ k_85) (fun _ h9 => h9) rfl d_Book_init_73 ?_
  refine lv_iload_n hx hb d_Book_init_76 rfl (lv_at hl 0 rfl) ?_
  refine va_new (ci := 0) (fs := [.null, .int 0, .int 0]) (C := R_Row) (T := F_Row) (N := 3) hx hb ht i_Row t_Row t_Row_ok hown (ht _ k_77) (ht _ k_19) (ht _ k_1) hK hP hD hS hA rfl (fun j hj => by rcases (show j = 0 ∨ j = 1 ∨ j = 2 by omega) with rfl | rfl | rfl <;> rfl) (Nat.le_of_ble_eq_true rfl) (Nat.le_of_ble_eq_true rfl) d_Book_init_77 (fun q20 H hP hD hS => ?_)
  refine W.widen (k := 13) (n := 222) (by omega) (by omega) ?_
  have hP : va_P (dC, dI) classes [(h0, .inr (2, [.int (-1), .int 0, .ref q1, .ref q4, .int 0, .ref q7, .int 0, .ref q10, .int 0, .ref q12, .null, .int 0, .int 0])), (q12, .inl (cA13, 20, .inr (.inr (.inr (.inr (va_up (va_up (fun _ => none) 0 (some q14)) 1 (some q17))))))), (q20, .inr (0, [.null, .int 0, .int 0]))] H := hP
  have hD : va_D A [(h0, .inr (2, [.int (-1), .int 0, .ref q1, .ref q4, .int 0, .ref q7, .int 0, .ref q10, .int 0, .ref q12, .null, .int 0, .int 0])), (q12, .inl (cA13, 20, .inr (.inr (.inr (.inr (va_up (va_up (fun _ => none) 0 (some q14)) 1 (some q17))))))), (q20, .inr (0, [.null, .int 0, .int 0]))] := hD
  refine lv_dup hx hb d_Book_init_80 rfl ?_
  refine lv_bipush (v := (nI 20)) hx hb d_Book_init_81 (by decide) ?_
  have hPc := hP.sub (ws' := [(q20, .inr (0, [.null, .int 0, .int 0]))]) [2] rfl
  have hDc := hD.sub (ws' := [(q20, .inr (0, [.null, .int 0, .int 0]))]) [2] (by decide) rfl
  have hKc := hK.sub (tys' := []) [] rfl
  have hFc := va_free (wc := [(q20, .inr (0, [.null, .int 0, .int 0]))]) hD hS hA [2] rfl
  refine va_callv (va_runI (As := [.int (nI 20)]) (rest := [.ref q20, .int (nI 2), .ref q12]) ⟨hx, hb, hml, hown, ht⟩ (c_Row_init l dC dI q20 H.size 20 (by decide) (by decide)) (cwI 1 ht (xw_good k_22) rfl rfl rfl (ht _ k_1) (ht _ k_78) (ht _ k_21) rfl (by decide +kernel) ⟨(Nat.le_of_ble_eq_true rfl), (Nat.le_of_ble_eq_true rfl)⟩) ⟨fun a U g mk q => by obtain ⟨q0, q1, qP, qK, qD⟩ := q; exact ⟨q0, q1, qP, va_K.moved (u := U) (U := U.calling g mk a) (Vm.Alike.refl U.vm) qK, qD⟩, fun U hU hW => ⟨rfl, by rw [hU], by rw [hU]; exact hPc, va_K.moved hW.alike hKc, hDc.weaken (fun _ _ _ _ => trivial)⟩⟩ rfl rfl hl.1 rfl (lv_room (Nat.le_of_ble_eq_true rfl)) d_Book_init_83 ⟨(Nat.le_of_ble_eq_true rfl), (Nat.le_of_ble_eq_true rfl)⟩) hS (fun q _ h => hFc q h) hFc (fun u t H1 locs ht9 hvm hw hB hz1 hk1 hS => ?_)
  obtain ⟨q21, cA22, hP1, hK1, hD1⟩ := hB
  rw [ht9] at hP1
  have hK1 := va_K.moved hvm.symm hK1
  obtain ⟨hP, hD⟩ := va_join (wr := [(h0, .inr (2, [.int (-1), .int 0, .ref q1, .ref q4, .int 0, .ref q7, .int 0, .ref q10, .int 0, .ref q12, .null, .int 0, .int 0])), (q12, .inl (cA13, 20, .inr (.inr (.inr (.inr (va_up (va_up (fun _ => none) 0 (some q14)) 1 (some q17)))))))]) (w1 := [(q20, .inr (0, [.ref q21, .int 0, .int 0])), (q21, .inl (cA22, 20, .inl (fun _ => 0)))]) hP hD [2] [0, 1] rfl rfl (by decide) (by decide) hk1 hFc hP1 hD1
  have hK := (hK.sub (tys' := [(cA13, .object R_Row)]) [0] rfl).app hK1
  generalize H1 = H at hP hS ⊢
  have hP : va_P (dC, dI) classes [(h0, .inr (2, [.int (-1), .int 0, .ref q1, .ref q4, .int 0, .ref q7, .int 0, .ref q10, .int 0, .ref q12, .null, .int 0, .int 0])), (q12, .inl (cA13, 20, .inr (.inr (.inr (.inr (va_up (va_up (fun _ => none) 0 (some q14)) 1 (some q17))))))), (q20, .inr (0, [.ref q21, .int 0, .int 0])), (q21, .inl (cA22, 20, .inl (fun _ => 0)))] H := hP
  have hD : va_D A [(h0, .inr (2, [.int (-1), .int 0, .ref q1, .ref q4, .int 0, .ref q7, .int 0, .ref q10, .int 0, .ref q12, .null, .int 0, .int 0])), (q12, .inl (cA13, 20, .inr (.inr (.inr (.inr (va_up (va_up (fun _ => none) 0 (some q14)) 1 (some q17))))))), (q20, .inr (0, [.ref q21, .int 0, .int 0])), (q21, .inl (cA22, 20, .inl (fun _ => 0)))] := hD
  have hK : va_K (dC, dI) classes [(cA13, .object R_Row), (cA22, .byte)] s := hK
  refine W.widen (k := 14) (n := 242) (by omega) (by omega) ?_
  refine va_astq hx hb hK hP hD hS 1 0 2 0 rfl rfl rfl rfl (vp_in_nI (by decide) (by decide)) d_Book_init_86 (fun H locs hP hD hS => ?_)
  rw [nI_clamp (by decide)] at hP hD
  have hP : va_P (dC, dI) classes [(h0, .inr (2, [.int (-1), .int 0, .ref q1, .ref q4, .int 0, .ref q7, .int 0, .ref q10, .int 0, .ref q12, .null, .int 0, .int 0])), (q12, .inl (cA13, 20, .inr (.inr (.inr (.inr (va_up (va_up (va_up (fun _ => none) 0 (some q14)) 1 (some q17)) 2 (some q20))))))), (q20, .inr (0, [.ref q21, .int 0, .int 0])), (q21, .inl (cA22, 20, .inl (fun _ => 0)))] H := hP
  have hD : va_D A [(h0, .inr (2, [.int (-1), .int 0, .ref q1, .ref q4, .int 0, .ref q7, .int 0, .ref q10, .int 0, .ref q12, .null, .int 0, .int 0])), (q12, .inl (cA13, 20, .inr (.inr (.inr (.inr (va_up (va_up (va_up (fun _ => none) 0 (some q14)) 1 (some q17)) 2 (some q20))))))), (q20, .inr (0, [.ref q21, .int 0, .int 0])), (q21, .inl (cA22, 20, .inl (fun _ => 0)))] := hD
  have hP := hP.sub (ws' := [(h0, .inr (2, [.int (-1), .int 0, .ref q1, .ref q4, .int 0, .ref q7, .int 0, .ref q10, .int 0, .ref q12, .null, .int 0, .int 0])), (q12, .inl (cA13, 20, .inr (.inr (.inr (.inr (va_up (va_up (va_up (fun _ => none) 0 (some q14)) 1 (some q17)) 2 (some q20)))))))]) [0, 1] rfl
  have hD := hD.sub (ws' := [(h0, .inr (2, [.int (-1), .int 0, .ref q1, .ref q4, .int 0, .ref q7, .int 0, .ref q10, .int 0, .ref q12, .null, .int 0, .int 0])), (q12, .inl (cA13, 20, .inr (.inr (.inr (.inr (va_up (va_up (va_up (fun _ => none) 0 (some q14)) 1 (some q17)) 2 (some q20)))))))]) [0, 1] (by decide) rfl
  have hK := hK.sub (tys' := [(cA13, .object R_Row)]) [0] rfl
  refine lv_iinc (v := (nI 3)) (lv' := [(1, .int (nI 3)), (0, .ref h0)]) hx hb d_Book_init_87 hl (k := 0) rfl (by decide) (by decide) rfl (fun ls hl => ?_)
  refine lv_goto (tgt := 66) hx hb d_Book_init_90 (by decide) ?_
  refine lv_iload_n hx hb d_Book_init_66 rfl (lv_at hl 0 rfl) ?_
  refine lv_bipush (v := (nI 20)) hx hb d_Book_init_67 (by decide) ?_
  refine lv_icmp_ge (tgt := 93) hx hb d_Book_init_69 (by decide) (fun c_69 => absurd c_69 (by decide)) (fun _ => ?_)
  refine lv_aload_n hx hb d_Book_init_72 rfl (lv_at hl 1 rfl) ?_
  refine va_get (D := (dC, dI)) (ci := 2) (v := .ref q12) (C := R_Book) (T := F_Book) (N := 13) hx hb ht i_Book hown hK hP 0 rfl rfl 9 (by decide) (ht _ k_85) (fun _ h9 => h9) rfl d_Book_init_73 ?_
  refine lv_iload_n hx hb d_Book_init_76 rfl (lv_at hl 0 rfl) ?_
  refine va_new (ci := 0) (fs := [.null, .int 0, .int 0]) (C := R_Row) (T := F_Row) (N := 3) hx hb ht i_Row t_Row t_Row_ok hown (ht _ k_77) (ht _ k_19) (ht _ k_1) hK hP hD hS hA rfl (fun j hj => by rcases (show j = 0 ∨ j = 1 ∨ j = 2 by omega) with rfl | rfl | rfl <;> rfl) (Nat.le_of_ble_eq_true rfl) (Nat.le_of_ble_eq_true rfl) d_Book_init_77 (fun q23 H hP hD hS => ?_)
  refine W.widen (k := 15) (n := 245) (by omega) (by omega) ?_
  have hP : va_P (dC, dI) classes [(h0, .inr (2, [.int (-1), .int 0, .ref q1, .ref q4, .int 0, .ref q7, .int 0, .ref q10, .int 0, .ref q12, .null, .int 0, .int 0])), (q12, .inl (cA13, 20, .inr (.inr (.inr (.inr (va_up (va_up (va_up (fun _ => none) 0 (some q14)) 1 (some q17)) 2 (some q20))))))), (q23, .inr (0, [.null, .int 0, .int 0]))] H := hP
  have hD : va_D A [(h0, .inr (2, [.int (-1), .int 0, .ref q1, .ref q4, .int 0, .ref q7, .int 0, .ref q10, .int 0, .ref q12, .null, .int 0, .int 0])), (q12, .inl (cA13, 20, .inr (.inr (.inr (.inr (va_up (va_up (va_up (fun _ => none) 0 (some q14)) 1 (some q17)) 2 (some q20))))))), (q23, .inr (0, [.null, .int 0, .int 0]))] := hD
  refine lv_dup hx hb d_Book_init_80 rfl ?_
  refine lv_bipush (v := (nI 20)) hx hb d_Book_init_81 (by decide) ?_
  have hPc := hP.sub (ws' := [(q23, .inr (0, [.null, .int 0, .int 0]))]) [2] rfl
  have hDc := hD.sub (ws' := [(q23, .inr (0, [.null, .int 0, .int 0]))]) [2] (by decide) rfl
  have hKc := hK.sub (tys' := []) [] rfl
  have hFc := va_free (wc := [(q23, .inr (0, [.null, .int 0, .int 0]))]) hD hS hA [2] rfl
  refine va_callv (va_runI (As := [.int (nI 20)]) (rest := [.ref q23, .int (nI 3), .ref q12]) ⟨hx, hb, hml, hown, ht⟩ (c_Row_init l dC dI q23 H.size 20 (by decide) (by decide)) (cwI 1 ht (xw_good k_22) rfl rfl rfl (ht _ k_1) (ht _ k_78) (ht _ k_21) rfl (by decide +kernel) ⟨(Nat.le_of_ble_eq_true rfl), (Nat.le_of_ble_eq_true rfl)⟩) ⟨fun a U g mk q => by obtain ⟨q0, q1, qP, qK, qD⟩ := q; exact ⟨q0, q1, qP, va_K.moved (u := U) (U := U.calling g mk a) (Vm.Alike.refl U.vm) qK, qD⟩, fun U hU hW => ⟨rfl, by rw [hU], by rw [hU]; exact hPc, va_K.moved hW.alike hKc, hDc.weaken (fun _ _ _ _ => trivial)⟩⟩ rfl rfl hl.1 rfl (lv_room (Nat.le_of_ble_eq_true rfl)) d_Book_init_83 ⟨(Nat.le_of_ble_eq_true rfl), (Nat.le_of_ble_eq_true rfl)⟩) hS (fun q _ h => hFc q h) hFc (fun u t H1 locs ht9 hvm hw hB hz1 hk1 hS => ?_)
  obtain ⟨q24, cA25, hP1, hK1, hD1⟩ := hB
  rw [ht9] at hP1
  have hK1 := va_K.moved hvm.symm hK1
  obtain ⟨hP, hD⟩ := va_join (wr := [(h0, .inr (2, [.int (-1), .int 0, .ref q1, .ref q4, .int 0, .ref q7, .int 0, .ref q10, .int 0, .ref q12, .null, .int 0, .int 0])), (q12, .inl (cA13, 20, .inr (.inr (.inr (.inr (va_up (va_up (va_up (fun _ => none) 0 (some q14)) 1 (some q17)) 2 (some q20)))))))]) (w1 := [(q23, .inr (0, [.ref q24, .int 0, .int 0])), (q24, .inl (cA25, 20, .inl (fun _ => 0)))]) hP hD [2] [0, 1] rfl rfl (by decide) (by decide) hk1 hFc hP1 hD1
  have hK := (hK.sub (tys' := [(cA13, .object R_Row)]) [0] rfl).app hK1
  generalize H1 = H at hP hS ⊢
  have hP : va_P (dC, dI) classes [(h0, .inr (2, [.int (-1), .int 0, .ref q1, .ref q4, .int 0, .ref q7, .int 0, .ref q10, .int 0, .ref q12, .null, .int 0, .int 0])), (q12, .inl (cA13, 20, .inr (.inr (.inr (.inr (va_up (va_up (va_up (fun _ => none) 0 (some q14)) 1 (some q17)) 2 (some q20))))))), (q23, .inr (0, [.ref q24, .int 0, .int 0])), (q24, .inl (cA25, 20, .inl (fun _ => 0)))] H := hP
  have hD : va_D A [(h0, .inr (2, [.int (-1), .int 0, .ref q1, .ref q4, .int 0, .ref q7, .int 0, .ref q10, .int 0, .ref q12, .null, .int 0, .int 0])), (q12, .inl (cA13, 20, .inr (.inr (.inr (.inr (va_up (va_up (va_up (fun _ => none) 0 (some q14)) 1 (some q17)) 2 (some q20))))))), (q23, .inr (0, [.ref q24, .int 0, .int 0])), (q24, .inl (cA25, 20, .inl (fun _ => 0)))] := hD
  have hK : va_K (dC, dI) classes [(cA13, .object R_Row), (cA25, .byte)] s := hK
  refine W.widen (k := 16) (n := 265) (by omega) (by omega) ?_
  refine va_astq hx hb hK hP hD hS 1 0 2 0 rfl rfl rfl rfl (vp_in_nI (by decide) (by decide)) d_Book_init_86 (fun H locs hP hD hS => ?_)
  rw [nI_clamp (by decide)] at hP hD
  have hP : va_P (dC, dI) classes [(h0, .inr (2, [.int (-1), .int 0, .ref q1, .ref q4, .int 0, .ref q7, .int 0, .ref q10, .int 0, .ref q12, .null, .int 0, .int 0])), (q12, .inl (cA13, 20, .inr (.inr (.inr (.inr (va_up (va_up (va_up (va_up (fun _ => none) 0 (some q14)) 1 (some q17)) 2 (some q20)) 3 (some q23))))))), (q23, .inr (0, [.ref q24, .int 0, .int 0])), (q24, .inl (cA25, 20, .inl (fun _ => 0)))] H := hP
  have hD : va_D A [(h0, .inr (2, [.int (-1), .int 0, .ref q1, .ref q4, .int 0, .ref q7, .int 0, .ref q10, .int 0, .ref q12, .null, .int 0, .int 0])), (q12, .inl (cA13, 20, .inr (.inr (.inr (.inr (va_up (va_up (va_up (va_up (fun _ => none) 0 (some q14)) 1 (some q17)) 2 (some q20)) 3 (some q23))))))), (q23, .inr (0, [.ref q24, .int 0, .int 0])), (q24, .inl (cA25, 20, .inl (fun _ => 0)))] := hD
  have hP := hP.sub (ws' := [(h0, .inr (2, [.int (-1), .int 0, .ref q1, .ref q4, .int 0, .ref q7, .int 0, .ref q10, .int 0, .ref q12, .null, .int 0, .int 0])), (q12, .inl (cA13, 20, .inr (.inr (.inr (.inr (va_up (va_up (va_up (va_up (fun _ => none) 0 (some q14)) 1 (some q17)) 2 (some q20)) 3 (some q23)))))))]) [0, 1] rfl
  have hD := hD.sub (ws' := [(h0, .inr (2, [.int (-1), .int 0, .ref q1, .ref q4, .int 0, .ref q7, .int 0, .ref q10, .int 0, .ref q12, .null, .int 0, .int 0])), (q12, .inl (cA13, 20, .inr (.inr (.inr (.inr (va_up (va_up (va_up (va_up (fun _ => none) 0 (some q14)) 1 (some q17)) 2 (some q20)) 3 (some q23)))))))]) [0, 1] (by decide) rfl
  have hK := hK.sub (tys' := [(cA13, .object R_Row)]) [0] rfl
  refine lv_iinc (v := (nI 4)) (lv' := [(1, .int (nI 4)), (0, .ref h0)]) hx hb d_Book_init_87 hl (k := 0) rfl (by decide) (by decide) rfl (fun ls hl => ?_)
  refine lv_goto (tgt := 66) hx hb d_Book_init_90 (by decide) ?_
  refine lv_iload_n hx hb d_Book_init_66 rfl (lv_at hl 0 rfl) ?_
  refine lv_bipush (v := (nI 20)) hx hb d_Book_init_67 (by decide) ?_
  refine lv_icmp_ge (tgt := 93) hx hb d_Book_init_69 (by decide) (fun c_69 => absurd c_69 (by decide)) (fun _ => ?_)
  refine lv_aload_n hx hb d_Book_init_72 rfl (lv_at hl 1 rfl) ?_
  refine va_get (D := (dC, dI)) (ci := 2) (v := .ref q12) (C := R_Book) (T := F_Book) (N := 13) hx hb ht i_Book hown hK hP 0 rfl rfl 9 (by decide) (ht _ k_85) (fun _ h9 => h9) rfl d_Book_init_73 ?_
  refine lv_iload_n hx hb d_Book_init_76 rfl (lv_at hl 0 rfl) ?_
  refine va_new (ci := 0) (fs := [.null, .int 0, .int 0]) (C := R_Row) (T := F_Row) (N := 3) hx hb ht i_Row t_Row t_Row_ok hown (ht _ k_77) (ht _ k_19) (ht _ k_1) hK hP hD hS hA rfl (fun j hj => by rcases (show j = 0 ∨ j = 1 ∨ j = 2 by omega) with rfl | rfl | rfl <;> rfl) (Nat.le_of_ble_eq_true rfl) (Nat.le_of_ble_eq_true rfl) d_Book_init_77 (fun q26 H hP hD hS => ?_)
  refine W.widen (k := 17) (n := 268) (by omega) (by omega) ?_
  have hP : va_P (dC, dI) classes [(h0, .inr (2, [.int (-1), .int 0, .ref q1, .ref q4, .int 0, .ref q7, .int 0, .ref q10, .int 0, .ref q12, .null, .int 0, .int 0])), (q12, .inl (cA13, 20, .inr (.inr (.inr (.inr (va_up (va_up (va_up (va_up (fun _ => none) 0 (some q14)) 1 (some q17)) 2 (some q20)) 3 (some q23))))))), (q26, .inr (0, [.null, .int 0, .int 0]))] H := hP
  have hD : va_D A [(h0, .inr (2, [.int (-1), .int 0, .ref q1, .ref q4, .int 0, .ref q7, .int 0, .ref q10, .int 0, .ref q12, .null, .int 0, .int 0])), (q12, .inl (cA13, 20, .inr (.inr (.inr (.inr (va_up (va_up (va_up (va_up (fun _ => none) 0 (some q14)) 1 (some q17)) 2 (some q20)) 3 (some q23))))))), (q26, .inr (0, [.null, .int 0, .int 0]))] := hD
  refine lv_dup hx hb d_Book_init_80 rfl ?_
  refine lv_bipush (v := (nI 20)) hx hb d_Book_init_81 (by decide) ?_
  have hPc := hP.sub (ws' := [(q26, .inr (0, [.null, .int 0, .int 0]))]) [2] rfl
  have hDc := hD.sub (ws' := [(q26, .inr (0, [.null, .int 0, .int 0]))]) [2] (by decide) rfl
  have hKc := hK.sub (tys' := []) [] rfl
  have hFc := va_free (wc := [(q26, .inr (0, [.null, .int 0, .int 0]))]) hD hS hA [2] rfl
  refine va_callv (va_runI (As := [.int (nI 20)]) (rest := [.ref q26, .int (nI 4), .ref q12]) ⟨hx, hb, hml, hown, ht⟩ (c_Row_init l dC dI q26 H.size 20 (by decide) (by decide)) (cwI 1 ht (xw_good k_22) rfl rfl rfl (ht _ k_1) (ht _ k_78) (ht _ k_21) rfl (by decide +kernel) ⟨(Nat.le_of_ble_eq_true rfl), (Nat.le_of_ble_eq_true rfl)⟩) ⟨fun a U g mk q => by obtain ⟨q0, q1, qP, qK, qD⟩ := q; exact ⟨q0, q1, qP, va_K.moved (u := U) (U := U.calling g mk a) (Vm.Alike.refl U.vm) qK, qD⟩, fun U hU hW => ⟨rfl, by rw [hU], by rw [hU]; exact hPc, va_K.moved hW.alike hKc, hDc.weaken (fun _ _ _ _ => trivial)⟩⟩ rfl rfl hl.1 rfl (lv_room (Nat.le_of_ble_eq_true rfl)) d_Book_init_83 ⟨(Nat.le_of_ble_eq_true rfl), (Nat.le_of_ble_eq_true rfl)⟩) hS (fun q _ h => hFc q h) hFc (fun u t H1 locs ht9 hvm hw hB hz1 hk1 hS => ?_)
  obtain ⟨q27, cA28, hP1, hK1, hD1⟩ := hB
  rw [ht9] at hP1
  have hK1 := va_K.moved hvm.symm hK1
  obtain ⟨hP, hD⟩ := va_join (wr := [(h0, .inr (2, [.int (-1), .int 0, .ref q1, .ref q4, .int 0, .ref q7, .int 0, .ref q10, .int 0, .ref q12, .null, .int 0, .int 0])), (q12, .inl (cA13, 20, .inr (.inr (.inr (.inr (va_up (va_up (va_up (va_up (fun _ => none) 0 (some q14)) 1 (some q17)) 2 (some q20)) 3 (some q23)))))))]) (w1 := [(q26, .inr (0, [.ref q27, .int 0, .int 0])), (q27, .inl (cA28, 20, .inl (fun _ => 0)))]) hP hD [2] [0, 1] rfl rfl (by decide) (by decide) hk1 hFc hP1 hD1
  have hK := (hK.sub (tys' := [(cA13, .object R_Row)]) [0] rfl).app hK1
  generalize H1 = H at hP hS ⊢
  have hP : va_P (dC, dI) classes [(h0, .inr (2, [.int (-1), .int 0, .ref q1, .ref q4, .int 0, .ref q7, .int 0, .ref q10, .int 0, .ref q12, .null, .int 0, .int 0])), (q12, .inl (cA13, 20, .inr (.inr (.inr (.inr (va_up (va_up (va_up (va_up (fun _ => none) 0 (some q14)) 1 (some q17)) 2 (some q20)) 3 (some q23))))))), (q26, .inr (0, [.ref q27, .int 0, .int 0])), (q27, .inl (cA28, 20, .inl (fun _ => 0)))] H := hP
  have hD : va_D A [(h0, .inr (2, [.int (-1), .int 0, .ref q1, .ref q4, .int 0, .ref q7, .int 0, .ref q10, .int 0, .ref q12, .null, .int 0, .int 0])), (q12, .inl (cA13, 20, .inr (.inr (.inr (.inr (va_up (va_up (va_up (va_up (fun _ => none) 0 (some q14)) 1 (some q17)) 2 (some q20)) 3 (some q23))))))), (q26, .inr (0, [.ref q27, .int 0, .int 0])), (q27, .inl (cA28, 20, .inl (fun _ => 0)))] := hD
  have hK : va_K (dC, dI) classes [(cA13, .object R_Row), (cA28, .byte)] s := hK
  refine W.widen (k := 18) (n := 288) (by omega) (by omega) ?_
  refine va_astq hx hb hK hP hD hS 1 0 2 0 rfl rfl rfl rfl (vp_in_nI (by decide) (by decide)) d_Book_init_86 (fun H locs hP hD hS => ?_)
  rw [nI_clamp (by decide)] at hP hD
  have hP : va_P (dC, dI) classes [(h0, .inr (2, [.int (-1), .int 0, .ref q1, .ref q4, .int 0, .ref q7, .int 0, .ref q10, .int 0, .ref q12, .null, .int 0, .int 0])), (q12, .inl (cA13, 20, .inr (.inr (.inr (.inr (va_up (va_up (va_up (va_up (va_up (fun _ => none) 0 (some q14)) 1 (some q17)) 2 (some q20)) 3 (some q23)) 4 (some q26))))))), (q26, .inr (0, [.ref q27, .int 0, .int 0])), (q27, .inl (cA28, 20, .inl (fun _ => 0)))] H := hP
  have hD : va_D A [(h0, .inr (2, [.int (-1), .int 0, .ref q1, .ref q4, .int 0, .ref q7, .int 0, .ref q10, .int 0, .ref q12, .null, .int 0, .int 0])), (q12, .inl (cA13, 20, .inr (.inr (.inr (.inr (va_up (va_up (va_up (va_up (va_up (fun _ => none) 0 (some q14)) 1 (some q17)) 2 (some q20)) 3 (some q23)) 4 (some q26))))))), (q26, .inr (0, [.ref q27, .int 0, .int 0])), (q27, .inl (cA28, 20, .inl (fun _ => 0)))] := hD
  have hP := hP.sub (ws' := [(h0, .inr (2, [.int (-1), .int 0, .ref q1, .ref q4, .int 0, .ref q7, .int 0, .ref q10, .int 0, .ref q12, .null, .int 0, .int 0])), (q12, .inl (cA13, 20, .inr (.inr (.inr (.inr (va_up (va_up (va_up (va_up (va_up (fun _ => none) 0 (some q14)) 1 (some q17)) 2 (some q20)) 3 (some q23)) 4 (some q26)))))))]) [0, 1] rfl
  have hD := hD.sub (ws' := [(h0, .inr (2, [.int (-1), .int 0, .ref q1, .ref q4, .int 0, .ref q7, .int 0, .ref q10, .int 0, .ref q12, .null, .int 0, .int 0])), (q12, .inl (cA13, 20, .inr (.inr (.inr (.inr (va_up (va_up (va_up (va_up (va_up (fun _ => none) 0 (some q14)) 1 (some q17)) 2 (some q20)) 3 (some q23)) 4 (some q26)))))))]) [0, 1] (by decide) rfl
  have hK := hK.sub (tys' := [(cA13, .object R_Row)]) [0] rfl
  refine lv_iinc (v := (nI 5)) (lv' := [(1, .int (nI 5)), (0, .ref h0)]) hx hb d_Book_init_87 hl (k := 0) rfl (by decide) (by decide) rfl (fun ls hl => ?_)
  refine lv_goto (tgt := 66) hx hb d_Book_init_90 (by decide) ?_
  refine lv_iload_n hx hb d_Book_init_66 rfl (lv_at hl 0 rfl) ?_
  refine lv_bipush (v := (nI 20)) hx hb d_Book_init_67 (by decide) ?_
  refine lv_icmp_ge (tgt := 93) hx hb d_Book_init_69 (by decide) (fun c_69 => absurd c_69 (by decide)) (fun _ => ?_)
  refine lv_aload_n hx hb d_Book_init_72 rfl (lv_at hl 1 rfl) ?_
  refine va_get (D := (dC, dI)) (ci := 2) (v := .ref q12) (C := R_Book) (T := F_Book) (N := 13) hx hb ht i_Book hown hK hP 0 rfl rfl 9 (by decide) (ht _ k_85) (fun _ h9 => h9) rfl d_Book_init_73 ?_
  refine lv_iload_n hx hb d_Book_init_76 rfl (lv_at hl 0 rfl) ?_
  refine va_new (ci := 0) (fs := [.null, .int 0, .int 0]) (C := R_Row) (T := F_Row) (N := 3) hx hb ht i_Row t_Row t_Row_ok hown (ht _ k_77) (ht _ k_19) (ht _ k_1) hK hP hD hS hA rfl (fun j hj => by rcases (show j = 0 ∨ j = 1 ∨ j = 2 by omega) with rfl | rfl | rfl <;> rfl) (Nat.le_of_ble_eq_true rfl) (Nat.le_of_ble_eq_true rfl) d_Book_init_77 (fun q29 H hP hD hS => ?_)
  refine W.widen (k := 19) (n := 291) (by omega) (by omega) ?_
  have hP : va_P (dC, dI) classes [(h0, .inr (2, [.int (-1), .int 0, .ref q1, .ref q4, .int 0, .ref q7, .int 0, .ref q10, .int 0, .ref q12, .null, .int 0, .int 0])), (q12, .inl (cA13, 20, .inr (.inr (.inr (.inr (va_up (va_up (va_up (va_up (va_up (fun _ => none) 0 (some q14)) 1 (some q17)) 2 (some q20)) 3 (some q23)) 4 (some q26))))))), (q29, .inr (0, [.null, .int 0, .int 0]))] H := hP
  have hD : va_D A [(h0, .inr (2, [.int (-1), .int 0, .ref q1, .ref q4, .int 0, .ref q7, .int 0, .ref q10, .int 0, .ref q12, .null, .int 0, .int 0])), (q12, .inl (cA13, 20, .inr (.inr (.inr (.inr (va_up (va_up (va_up (va_up (va_up (fun _ => none) 0 (some q14)) 1 (some q17)) 2 (some q20)) 3 (some q23)) 4 (some q26))))))), (q29, .inr (0, [.null, .int 0, .int 0]))] := hD
  refine lv_dup hx hb d_Book_init_80 rfl ?_
  refine lv_bipush (v := (nI 20)) hx hb d_Book_init_81 (by decide) ?_
  have hPc := hP.sub (ws' := [(q29, .inr (0, [.null, .int 0, .int 0]))]) [2] rfl
  have hDc := hD.sub (ws' := [(q29, .inr (0, [.null, .int 0, .int 0]))]) [2] (by decide) rfl
  have hKc := hK.sub (tys' := []) [] rfl
  have hFc := va_free (wc := [(q29, .inr (0, [.null, .int 0, .int 0]))]) hD hS hA [2] rfl
  refine va_callv (va_runI (As := [.int (nI 20)]) (rest := [.ref q29, .int (nI 5), .ref q12]) ⟨hx, hb, hml, hown, ht⟩ (c_Row_init l dC dI q29 H.size 20 (by decide) (by decide)) (cwI 1 ht (xw_good k_22) rfl rfl rfl (ht _ k_1) (ht _ k_78) (ht _ k_21) rfl (by decide +kernel) ⟨(Nat.le_of_ble_eq_true rfl), (Nat.le_of_ble_eq_true rfl)⟩) ⟨fun a U g mk q => by obtain ⟨q0, q1, qP, qK, qD⟩ := q; exact ⟨q0, q1, qP, va_K.moved (u := U) (U := U.calling g mk a) (Vm.Alike.refl U.vm) qK, qD⟩, fun U hU hW => ⟨rfl, by rw [hU], by rw [hU]; exact hPc, va_K.moved hW.alike hKc, hDc.weaken (fun _ _ _ _ => trivial)⟩⟩ rfl rfl hl.1 rfl (lv_room (Nat.le_of_ble_eq_true rfl)) d_Book_init_83 ⟨(Nat.le_of_ble_eq_true rfl), (Nat.le_of_ble_eq_true rfl)⟩) hS (fun q _ h => hFc q h) hFc (fun u t H1 locs ht9 hvm hw hB hz1 hk1 hS => ?_)
  obtain ⟨q30, cA31, hP1, hK1, hD1⟩ := hB
  rw [ht9] at hP1
  have hK1 := va_K.moved hvm.symm hK1
  obtain ⟨hP, hD⟩ := va_join (wr := [(h0, .inr (2, [.int (-1), .int 0, .ref q1, .ref q4, .int 0, .ref q7, .int 0, .ref q10, .int 0, .ref q12, .null, .int 0, .int 0])), (q12, .inl (cA13, 20, .inr (.inr (.inr (.inr (va_up (va_up (va_up (va_up (va_up (fun _ => none) 0 (some q14)) 1 (some q17)) 2 (some q20)) 3 (some q23)) 4 (some q26)))))))]) (w1 := [(q29, .inr (0, [.ref q30, .int 0, .int 0])), (q30, .inl (cA31, 20, .inl (fun _ => 0)))]) hP hD [2] [0, 1] rfl rfl (by decide) (by decide) hk1 hFc hP1 hD1
  have hK := (hK.sub (tys' := [(cA13, .object R_Row)]) [0] rfl).app hK1
  generalize H1 = H at hP hS ⊢
  have hP : va_P (dC, dI) classes [(h0, .inr (2, [.int (-1), .int 0, .ref q1, .ref q4, .int 0, .ref q7, .int 0, .ref q10, .int 0, .ref q12, .null, .int 0, .int 0])), (q12, .inl (cA13, 20, .inr (.inr (.inr (.inr (va_up (va_up (va_up (va_up (va_up (fun _ => none) 0 (some q14)) 1 (some q17)) 2 (some q20)) 3 (some q23)) 4 (some q26))))))), (q29, .inr (0, [.ref q30, .int 0, .int 0])), (q30, .inl (cA31, 20, .inl (fun _ => 0)))] H := hP
  have hD : va_D A [(h0, .inr (2, [.int (-1), .int 0, .ref q1, .ref q4, .int 0, .ref q7, .int 0, .ref q10, .int 0, .ref q12, .null, .int 0, .int 0])), (q12, .inl (cA13, 20, .inr (.inr (.inr (.inr (va_up (va_up (va_up (va_up (va_up (fun _ => none) 0 (some q14)) 1 (some q17)) 2 (some q20)) 3 (some q23)) 4 (some q26))))))), (q29, .inr (0, [.ref q30, .int 0, .int 0])), (q30, .inl (cA31, 20, .inl (fun _ => 0)))] := hD
  have hK : va_K (dC, dI) classes [(cA13, .object R_Row), (cA31, .byte)] s := hK
  refine W.widen (k := 20) (n := 311) (by omega) (by omega) ?_
  refine va_astq hx hb hK hP hD hS 1 0 2 0 rfl rfl rfl rfl (vp_in_nI (by decide) (by decide)) d_Book_init_86 (fun H locs hP hD hS => ?_)
  rw [nI_clamp (by decide)] at hP hD
  have hP : va_P (dC, dI) classes [(h0, .inr (2, [.int (-1), .int 0, .ref q1, .ref q4, .int 0, .ref q7, .int 0, .ref q10, .int 0, .ref q12, .null, .int 0, .int 0])), (q12, .inl (cA13, 20, .inr (.inr (.inr (.inr (va_up (va_up (va_up (va_up (va_up (va_up (fun _ => none) 0 (some q14)) 1 (some q17)) 2 (some q20)) 3 (some q23)) 4 (some q26)) 5 (some q29))))))), (q29, .inr (0, [.ref q30, .int 0, .int 0])), (q30, .inl (cA31, 20, .inl (fun _ => 0)))] H := hP
  have hD : va_D A [(h0, .inr (2, [.int (-1), .int 0, .ref q1, .ref q4, .int 0, .ref q7, .int 0, .ref q10, .int 0, .ref q12, .null, .int 0, .int 0])), (q12, .inl (cA13, 20, .inr (.inr (.inr (.inr (va_up (va_up (va_up (va_up (va_up (va_up (fun _ => none) 0 (some q14)) 1 (some q17)) 2 (some q20)) 3 (some q23)) 4 (some q26)) 5 (some q29))))))), (q29, .inr (0, [.ref q30, .int 0, .int 0])), (q30, .inl (cA31, 20, .inl (fun _ => 0)))] := hD
  have hP := hP.sub (ws' := [(h0, .inr (2, [.int (-1), .int 0, .ref q1, .ref q4, .int 0, .ref q7, .int 0, .ref q10, .int 0, .ref q12, .null, .int 0, .int 0])), (q12, .inl (cA13, 20, .inr (.inr (.inr (.inr (va_up (va_up (va_up (va_up (va_up (va_up (fun _ => none) 0 (some q14)) 1 (some q17)) 2 (some q20)) 3 (some q23)) 4 (some q26)) 5 (some q29)))))))]) [0, 1] rfl
  have hD := hD.sub (ws' := [(h0, .inr (2, [.int (-1), .int 0, .ref q1, .ref q4, .int 0, .ref q7, .int 0, .ref q10, .int 0, .ref q12, .null, .int 0, .int 0])), (q12, .inl (cA13, 20, .inr (.inr (.inr (.inr (va_up (va_up (va_up (va_up (va_up (va_up (fun _ => none) 0 (some q14)) 1 (some q17)) 2 (some q20)) 3 (some q23)) 4 (some q26)) 5 (some q29)))))))]) [0, 1] (by decide) rfl
  have hK := hK.sub (tys' := [(cA13, .object R_Row)]) [0] rfl
  refine lv_iinc (v := (nI 6)) (lv' := [(1, .int (nI 6)), (0, .ref h0)]) hx hb d_Book_init_87 hl (k := 0) rfl (by decide) (by decide) rfl (fun ls hl => ?_)
  refine lv_goto (tgt := 66) hx hb d_Book_init_90 (by decide) ?_
  refine lv_iload_n hx hb d_Book_init_66 rfl (lv_at hl 0 rfl) ?_
  refine lv_bipush (v := (nI 20)) hx hb d_Book_init_67 (by decide) ?_
  refine lv_icmp_ge (tgt := 93) hx hb d_Book_init_69 (by decide) (fun c_69 => absurd c_69 (by decide)) (fun _ => ?_)
  refine lv_aload_n hx hb d_Book_init_72 rfl (lv_at hl 1 rfl) ?_
  refine va_get (D := (dC, dI)) (ci := 2) (v := .ref q12) (C := R_Book) (T := F_Book) (N := 13) hx hb ht i_Book hown hK hP 0 rfl rfl 9 (by decide) (ht _ k_85) (fun _ h9 => h9) rfl d_Book_init_73 ?_
  refine lv_iload_n hx hb d_Book_init_76 rfl (lv_at hl 0 rfl) ?_
  refine va_new (ci := 0) (fs := [.null, .int 0, .int 0]) (C := R_Row) (T := F_Row) (N := 3) hx hb ht i_Row t_Row t_Row_ok hown (ht _ k_77) (ht _ k_19) (ht _ k_1) hK hP hD hS hA rfl (fun j hj => by rcases (show j = 0 ∨ j = 1 ∨ j = 2 by omega) with rfl | rfl | rfl <;> rfl) (Nat.le_of_ble_eq_true rfl) (Nat.le_of_ble_eq_true rfl) d_Book_init_77 (fun q32 H hP hD hS => ?_)
  refine W.widen (k := 21) (n := 314) (by omega) (by omega) ?_
  have hP : va_P (dC, dI) classes [(h0, .inr (2, [.int (-1), .int 0, .ref q1, .ref q4, .int 0, .ref q7, .int 0, .ref q10, .int 0, .ref q12, .null, .int 0, .int 0])), (q12, .inl (cA13, 20, .inr (.inr (.inr (.inr (va_up (va_up (va_up (va_up (va_up (va_up (fun _ => none) 0 (some q14)) 1 (some q17)) 2 (some q20)) 3 (some q23)) 4 (some q26)) 5 (some q29))))))), (q32, .inr (0, [.null, .int 0, .int 0]))] H := hP
  have hD : va_D A [(h0, .inr (2, [.int (-1), .int 0, .ref q1, .ref q4, .int 0, .ref q7, .int 0, .ref q10, .int 0, .ref q12, .null, .int 0, .int 0])), (q12, .inl (cA13, 20, .inr (.inr (.inr (.inr (va_up (va_up (va_up (va_up (va_up (va_up (fun _ => none) 0 (some q14)) 1 (some q17)) 2 (some q20)) 3 (some q23)) 4 (some q26)) 5 (some q29))))))), (q32, .inr (0, [.null, .int 0, .int 0]))] := hD
  refine lv_dup hx hb d_Book_init_80 rfl ?_
  refine lv_bipush (v := (nI 20)) hx hb d_Book_init_81 (by decide) ?_
  have hPc := hP.sub (ws' := [(q32, .inr (0, [.null, .int 0, .int 0]))]) [2] rfl
  have hDc := hD.sub (ws' := [(q32, .inr (0, [.null, .int 0, .int 0]))]) [2] (by decide) rfl
  have hKc := hK.sub (tys' := []) [] rfl
  have hFc := va_free (wc := [(q32, .inr (0, [.null, .int 0, .int 0]))]) hD hS hA [2] rfl
  refine va_callv (va_runI (As := [.int (nI 20)]) (rest := [.ref q32, .int (nI 6), .ref q12]) ⟨hx, hb, hml, hown, ht⟩ (c_Row_init l dC dI q32 H.size 20 (by decide) (by decide)) (cwI 1 ht (xw_good k_22) rfl rfl rfl (ht _ k_1) (ht _ k_78) (ht _ k_21) rfl (by decide +kernel) ⟨(Nat.le_of_ble_eq_true rfl), (Nat.le_of_ble_eq_true rfl)⟩) ⟨fun a U g mk q => by obtain ⟨q0, q1, qP, qK, qD⟩ := q; exact ⟨q0, q1, qP, va_K.moved (u := U) (U := U.calling g mk a) (Vm.Alike.refl U.vm) qK, qD⟩, fun U hU hW => ⟨rfl, by rw [hU], by rw [hU]; exact hPc, va_K.moved hW.alike hKc, hDc.weaken (fun _ _ _ _ => trivial)⟩⟩ rfl rfl hl.1 rfl (lv_room (Nat.le_of_ble_eq_true rfl)) d_Book_init_83 ⟨(Nat.le_of_ble_eq_true rfl), (Nat.le_of_ble_eq_true rfl)⟩) hS (fun q _ h => hFc q h) hFc (fun u t H1 locs ht9 hvm hw hB hz1 hk1 hS => ?_)
  obtain ⟨q33, cA34, hP1, hK1, hD1⟩ := hB
  rw [ht9] at hP1
  have hK1 := va_K.moved hvm.symm hK1
  obtain ⟨hP, hD⟩ := va_join (wr := [(h0, .inr (2, [.int (-1), .int 0, .ref q1, .ref q4, .int 0, .ref q7, .int 0, .ref q10, .int 0, .ref q12, .null, .int 0, .int 0])), (q12, .inl (cA13, 20, .inr (.inr (.inr (.inr (va_up (va_up (va_up (va_up (va_up (va_up (fun _ => none) 0 (some q14)) 1 (some q17)) 2 (some q20)) 3 (some q23)) 4 (some q26)) 5 (some q29)))))))]) (w1 := [(q32, .inr (0, [.ref q33, .int 0, .int 0])), (q33, .inl (cA34, 20, .inl (fun _ => 0)))]) hP hD [2] [0, 1] rfl rfl (by decide) (by decide) hk1 hFc hP1 hD1
  have hK := (hK.sub (tys' := [(cA13, .object R_Row)]) [0] rfl).app hK1
  generalize H1 = H at hP hS ⊢
  have hP : va_P (dC, dI) classes [(h0, .inr (2, [.int (-1), .int 0, .ref q1, .ref q4, .int 0, .ref q7, .int 0, .ref q10, .int 0, .ref q12, .null, .int 0, .int 0])), (q12, .inl (cA13, 20, .inr (.inr (.inr (.inr (va_up (va_up (va_up (va_up (va_up (va_up (fun _ => none) 0 (some q14)) 1 (some q17)) 2 (some q20)) 3 (some q23)) 4 (some q26)) 5 (some q29))))))), (q32, .inr (0, [.ref q33, .int 0, .int 0])), (q33, .inl (cA34, 20, .inl (fun _ => 0)))] H := hP
  have hD : va_D A [(h0, .inr (2, [.int (-1), .int 0, .ref q1, .ref q4, .int 0, .ref q7, .int 0, .ref q10, .int 0, .ref q12, .null, .int 0, .int 0])), (q12, .inl (cA13, 20, .inr (.inr (.inr (.inr (va_up (va_up (va_up (va_up (va_up (va_up (fun _ => none) 0 (some q14)) 1 (some q17)) 2 (some q20)) 3 (some q23)) 4 (some q26)) 5 (some q29))))))), (q32, .inr (0, [.ref q33, .int 0, .int 0])), (q33, .inl (cA34, 20, .inl (fun _ => 0)))] := hD
  have hK : va_K (dC, dI) classes [(cA13, .object R_Row), (cA34, .byte)] s := hK
  refine W.widen (k := 22) (n := 334) (by omega) (by omega) ?_
  refine va_astq hx hb hK hP hD hS 1 0 2 0 rfl rfl rfl rfl (vp_in_nI (by decide) (by decide)) d_Book_init_86 (fun H locs hP hD hS => ?_)
  rw [nI_clamp (by decide)] at hP hD
  have hP : va_P (dC, dI) classes [(h0, .inr (2, [.int (-1), .int 0, .ref q1, .ref q4, .int 0, .ref q7, .int 0, .ref q10, .int 0, .ref q12, .null, .int 0, .int 0])), (q12, .inl (cA13, 20, .inr (.inr (.inr (.inr (va_up (va_up (va_up (va_up (va_up (va_up (va_up (fun _ => none) 0 (some q14)) 1 (some q17)) 2 (some q20)) 3 (some q23)) 4 (some q26)) 5 (some q29)) 6 (some q32))))))), (q32, .inr (0, [.ref q33, .int 0, .int 0])), (q33, .inl (cA34, 20, .inl (fun _ => 0)))] H := hP
  have hD : va_D A [(h0, .inr (2, [.int (-1), .int 0, .ref q1, .ref q4, .int 0, .ref q7, .int 0, .ref q10, .int 0, .ref q12, .null, .int 0, .int 0])), (q12, .inl (cA13, 20, .inr (.inr (.inr (.inr (va_up (va_up (va_up (va_up (va_up (va_up (va_up (fun _ => none) 0 (some q14)) 1 (some q17)) 2 (some q20)) 3 (some q23)) 4 (some q26)) 5 (some q29)) 6 (some q32))))))), (q32, .inr (0, [.ref q33, .int 0, .int 0])), (q33, .inl (cA34, 20, .inl (fun _ => 0)))] := hD
  have hP := hP.sub (ws' := [(h0, .inr (2, [.int (-1), .int 0, .ref q1, .ref q4, .int 0, .ref q7, .int 0, .ref q10, .int 0, .ref q12, .null, .int 0, .int 0])), (q12, .inl (cA13, 20, .inr (.inr (.inr (.inr (va_up (va_up (va_up (va_up (va_up (va_up (va_up (fun _ => none) 0 (some q14)) 1 (some q17)) 2 (some q20)) 3 (some q23)) 4 (some q26)) 5 (some q29)) 6 (some q32)))))))]) [0, 1] rfl
  have hD := hD.sub (ws' := [(h0, .inr (2, [.int (-1), .int 0, .ref q1, .ref q4, .int 0, .ref q7, .int 0, .ref q10, .int 0, .ref q12, .null, .int 0, .int 0])), (q12, .inl (cA13, 20, .inr (.inr (.inr (.inr (va_up (va_up (va_up (va_up (va_up (va_up (va_up (fun _ => none) 0 (some q14)) 1 (some q17)) 2 (some q20)) 3 (some q23)) 4 (some q26)) 5 (some q29)) 6 (some q32)))))))]) [0, 1] (by decide) rfl
  have hK := hK.sub (tys' := [(cA13, .object R_Row)]) [0] rfl
  refine lv_iinc (v := (nI 7)) (lv' := [(1, .int (nI 7)), (0, .ref h0)]) hx hb d_Book_init_87 hl (k := 0) rfl (by decide) (by decide) rfl (fun ls hl => ?_)
  refine lv_goto (tgt := 66) hx hb d_Book_init_90 (by decide) ?_
  refine lv_iload_n hx hb d_Book_init_66 rfl (lv_at hl 0 rfl) ?_
  refine lv_bipush (v := (nI 20)) hx hb d_Book_init_67 (by decide) ?_
  refine lv_icmp_ge (tgt := 93) hx hb d_Book_init_69 (by decide) (fun c_69 => absurd c_69 (by decide)) (fun _ => ?_)
  refine lv_aload_n hx hb d_Book_init_72 rfl (lv_at hl 1 rfl) ?_
  refine va_get (D := (dC, dI)) (ci := 2) (v := .ref q12) (C := R_Book) (T := F_Book) (N := 13) hx hb ht i_Book hown hK hP 0 rfl rfl 9 (by decide) (ht _ k_85) (fun _ h9 => h9) rfl d_Book_init_73 ?_
  refine lv_iload_n hx hb d_Book_init_76 rfl (lv_at hl 0 rfl) ?_
  refine va_new (ci := 0) (fs := [.null, .int 0, .int 0]) (C := R_Row) (T := F_Row) (N := 3) hx hb ht i_Row t_Row t_Row_ok hown (ht _ k_77) (ht _ k_19) (ht _ k_1) hK hP hD hS hA rfl (fun j hj => by rcases (show j = 0 ∨ j = 1 ∨ j = 2 by omega) with rfl | rfl | rfl <;> rfl) (Nat.le_of_ble_eq_true rfl) (Nat.le_of_ble_eq_true rfl) d_Book_init_77 (fun q35 H hP hD hS => ?_)
  refine W.widen (k := 23) (n := 337) (by omega) (by omega) ?_
  have hP : va_P (dC, dI) classes [(h0, .inr (2, [.int (-1), .int 0, .ref q1, .ref q4, .int 0, .ref q7, .int 0, .ref q10, .int 0, .ref q12, .null, .int 0, .int 0])), (q12, .inl (cA13, 20, .inr (.inr (.inr (.inr (va_up (va_up (va_up (va_up (va_up (va_up (va_up (fun _ => none) 0 (some q14)) 1 (some q17)) 2 (some q20)) 3 (some q23)) 4 (some q26)) 5 (some q29)) 6 (some q32))))))), (q35, .inr (0, [.null, .int 0, .int 0]))] H := hP
  have hD : va_D A [(h0, .inr (2, [.int (-1), .int 0, .ref q1, .ref q4, .int 0, .ref q7, .int 0, .ref q10, .int 0, .ref q12, .null, .int 0, .int 0])), (q12, .inl (cA13, 20, .inr (.inr (.inr (.inr (va_up (va_up (va_up (va_up (va_up (va_up (va_up (fun _ => none) 0 (some q14)) 1 (some q17)) 2 (some q20)) 3 (some q23)) 4 (some q26)) 5 (some q29)) 6 (some q32))))))), (q35, .inr (0, [.null, .int 0, .int 0]))] := hD
  refine lv_dup hx hb d_Book_init_80 rfl ?_
  refine lv_bipush (v := (nI 20)) hx hb d_Book_init_81 (by decide) ?_
  have hPc := hP.sub (ws' := [(q35, .inr (0, [.null, .int 0, .int 0]))]) [2] rfl
  have hDc := hD.sub (ws' := [(q35, .inr (0, [.null, .int 0, .int 0]))]) [2] (by decide) rfl
  have hKc := hK.sub (tys' := []) [] rfl
  have hFc := va_free (wc := [(q35, .inr (0, [.null, .int 0, .int 0]))]) hD hS hA [2] rfl
  refine va_callv (va_runI (As := [.int (nI 20)]) (rest := [.ref q35, .int (nI 7), .ref q12]) ⟨hx, hb, hml, hown, ht⟩ (c_Row_init l dC dI q35 H.size 20 (by decide) (by decide)) (cwI 1 ht (xw_good k_22) rfl rfl rfl (ht _ k_1) (ht _ k_78) (ht _ k_21) rfl (by decide +kernel) ⟨(Nat.le_of_ble_eq_true rfl), (Nat.le_of_ble_eq_true rfl)⟩) ⟨fun a U g mk q => by obtain ⟨q0, q1, qP, qK, qD⟩ := q; exact ⟨q0, q1, qP, va_K.moved (u := U) (U := U.calling g mk a) (Vm.Alike.refl U.vm) qK, qD⟩, fun U hU hW => ⟨rfl, by rw [hU], by rw [hU]; exact hPc, va_K.moved hW.alike hKc, hDc.weaken (fun _ _ _ _ => trivial)⟩⟩ rfl rfl hl.1 rfl (lv_room (Nat.le_of_ble_eq_true rfl)) d_Book_init_83 ⟨(Nat.le_of_ble_eq_true rfl), (Nat.le_of_ble_eq_true rfl)⟩) hS (fun q _ h => hFc q h) hFc (fun u t H1 locs ht9 hvm hw hB hz1 hk1 hS => ?_)
  obtain ⟨q36, cA37, hP1, hK1, hD1⟩ := hB
  rw [ht9] at hP1
  have hK1 := va_K.moved hvm.symm hK1
  obtain ⟨hP, hD⟩ := va_join (wr := [(h0, .inr (2, [.int (-1), .int 0, .ref q1, .ref q4, .int 0, .ref q7, .int 0, .ref q10, .int 0, .ref q12, .null, .int 0, .int 0])), (q12, .inl (cA13, 20, .inr (.inr (.inr (.inr (va_up (va_up (va_up (va_up (va_up (va_up (va_up (fun _ => none) 0 (some q14)) 1 (some q17)) 2 (some q20)) 3 (some q23)) 4 (some q26)) 5 (some q29)) 6 (some q32)))))))]) (w1 := [(q35, .inr (0, [.ref q36, .int 0, .int 0])), (q36, .inl (cA37, 20, .inl (fun _ => 0)))]) hP hD [2] [0, 1] rfl rfl (by decide) (by decide) hk1 hFc hP1 hD1
  have hK := (hK.sub (tys' := [(cA13, .object R_Row)]) [0] rfl).app hK1
  generalize H1 = H at hP hS ⊢
  have hP : va_P (dC, dI) classes [(h0, .inr (2, [.int (-1), .int 0, .ref q1, .ref q4, .int 0, .ref q7, .int 0, .ref q10, .int 0, .ref q12, .null, .int 0, .int 0])), (q12, .inl (cA13, 20, .inr (.inr (.inr (.inr (va_up (va_up (va_up (va_up (va_up (va_up (va_up (fun _ => none) 0 (some q14)) 1 (some q17)) 2 (some q20)) 3 (some q23)) 4 (some q26)) 5 (some q29)) 6 (some q32))))))), (q35, .inr (0, [.ref q36, .int 0, .int 0])), (q36, .inl (cA37, 20, .inl (fun _ => 0)))] H := hP
  have hD : va_D A [(h0, .inr (2, [.int (-1), .int 0, .ref q1, .ref q4, .int 0, .ref q7, .int 0, .ref q10, .int 0, .ref q12, .null, .int 0, .int 0])), (q12, .inl (cA13, 20, .inr (.inr (.inr (.inr (va_up (va_up (va_up (va_up (va_up (va_up (va_up (fun _ => none) 0 (some q14)) 1 (some q17)) 2 (some q20)) 3 (some q23)) 4 (some q26)) 5 (some q29)) 6 (some q32))))))), (q35, .inr (0, [.ref q36, .int 0, .int 0])), (q36, .inl (cA37, 20, .inl (fun _ => 0)))] := hD
  have hK : va_K (dC, dI) classes [(cA13, .object R_Row), (cA37, .byte)] s := hK
  refine W.widen (k := 24) (n := 357) (by omega) (by omega) ?_
  refine va_astq hx hb hK hP hD hS 1 0 2 0 rfl rfl rfl rfl (vp_in_nI (by decide) (by decide)) d_Book_init_86 (fun H locs hP hD hS => ?_)
  rw [nI_clamp (by decide)] at hP hD
  have hP : va_P (dC, dI) classes [(h0, .inr (2, [.int (-1), .int 0, .ref q1, .ref q4, .int 0, .ref q7, .int 0, .ref q10, .int 0, .ref q12, .null, .int 0, .int 0])), (q12, .inl (cA13, 20, .inr (.inr (.inr (.inr (va_up (va_up (va_up (va_up (va_up (va_up (va_up (va_up (fun _ => none) 0 (some q14)) 1 (some q17)) 2 (some q20)) 3 (some q23)) 4 (some q26)) 5 (some q29)) 6 (some q32)) 7 (some q35))))))), (q35, .inr (0, [.ref q36, .int 0, .int 0])), (q36, .inl (cA37, 20, .inl (fun _ => 0)))] H := hP
  have hD : va_D A [(h0, .inr (2, [.int (-1), .int 0, .ref q1, .ref q4, .int 0, .ref q7, .int 0, .ref q10, .int 0, .ref q12, .null, .int 0, .int 0])), (q12, .inl (cA13, 20, .inr (.inr (.inr (.inr (va_up (va_up (va_up (va_up (va_up (va_up (va_up (va_up (fun _ => none) 0 (some q14)) 1 (some q17)) 2 (some q20)) 3 (some q23)) 4 (some q26)) 5 (some q29)) 6 (some q32)) 7 (some q35))))))), (q35, .inr (0, [.ref q36, .int 0, .int 0])), (q36, .inl (cA37, 20, .inl (fun _ => 0)))] := hD
  have hP := hP.sub (ws' := [(h0, .inr (2, [.int (-1), .int 0, .ref q1, .ref q4, .int 0, .ref q7, .int 0, .ref q10, .int 0, .ref q12, .null, .int 0, .int 0])), (q12, .inl (cA13, 20, .inr (.inr (.inr (.inr (va_up (va_up (va_up (va_up (va_up (va_up (va_up (va_up (fun _ => none) 0 (some q14)) 1 (some q17)) 2 (some q20)) 3 (some q23)) 4 (some q26)) 5 (some q29)) 6 (some q32)) 7 (some q35)))))))]) [0, 1] rfl
  have hD := hD.sub (ws' := [(h0, .inr (2, [.int (-1), .int 0, .ref q1, .ref q4, .int 0, .ref q7, .int 0, .ref q10, .int 0, .ref q12, .null, .int 0, .int 0])), (q12, .inl (cA13, 20, .inr (.inr (.inr (.inr (va_up (va_up (va_up (va_up (va_up (va_up (va_up (va_up (fun _ => none) 0 (some q14)) 1 (some q17)) 2 (some q20)) 3 (some q23)) 4 (some q26)) 5 (some q29)) 6 (some q32)) 7 (some q35)))))))]) [0, 1] (by decide) rfl
  have hK := hK.sub (tys' := [(cA13, .object R_Row)]) [0] rfl
  refine lv_iinc (v := (nI 8)) (lv' := [(1, .int (nI 8)), (0, .ref h0)]) hx hb d_Book_init_87 hl (k := 0) rfl (by decide) (by decide) rfl (fun ls hl => ?_)
  refine lv_goto (tgt := 66) hx hb d_Book_init_90 (by decide) ?_
  refine lv_iload_n hx hb d_Book_init_66 rfl (lv_at hl 0 rfl) ?_
  refine lv_bipush (v := (nI 20)) hx hb d_Book_init_67 (by decide) ?_
  refine lv_icmp_ge (tgt := 93) hx hb d_Book_init_69 (by decide) (fun c_69 => absurd c_69 (by decide)) (fun _ => ?_)
  refine lv_aload_n hx hb d_Book_init_72 rfl (lv_at hl 1 rfl) ?_
  refine va_get (D := (dC, dI)) (ci := 2) (v := .ref q12) (C := R_Book) (T := F_Book) (N := 13) hx hb ht i_Book hown hK hP 0 rfl rfl 9 (by decide) (ht _ k_85) (fun _ h9 => h9) rfl d_Book_init_73 ?_
  refine lv_iload_n hx hb d_Book_init_76 rfl (lv_at hl 0 rfl) ?_
  refine va_new (ci := 0) (fs := [.null, .int 0, .int 0]) (C := R_Row) (T := F_Row) (N := 3) hx hb ht i_Row t_Row t_Row_ok hown (ht _ k_77) (ht _ k_19) (ht _ k_1) hK hP hD hS hA rfl (fun j hj => by rcases (show j = 0 ∨ j = 1 ∨ j = 2 by omega) with rfl | rfl | rfl <;> rfl) (Nat.le_of_ble_eq_true rfl) (Nat.le_of_ble_eq_true rfl) d_Book_init_77 (fun q38 H hP hD hS => ?_)
  refine W.widen (k := 25) (n := 360) (by omega) (by omega) ?_
  have hP : va_P (dC, dI) classes [(h0, .inr (2, [.int (-1), .int 0, .ref q1, .ref q4, .int 0, .ref q7, .int 0, .ref q10, .int 0, .ref q12, .null, .int 0, .int 0])), (q12, .inl (cA13, 20, .inr (.inr (.inr (.inr (va_up (va_up (va_up (va_up (va_up (va_up (va_up (va_up (fun _ => none) 0 (some q14)) 1 (some q17)) 2 (some q20)) 3 (some q23)) 4 (some q26)) 5 (some q29)) 6 (some q32)) 7 (some q35))))))), (q38, .inr (0, [.null, .int 0, .int 0]))] H := hP
  have hD : va_D A [(h0, .inr (2, [.int (-1), .int 0, .ref q1, .ref q4, .int 0, .ref q7, .int 0, .ref q10, .int 0, .ref q12, .null, .int 0, .int 0])), (q12, .inl (cA13, 20, .inr (.inr (.inr (.inr (va_up (va_up (va_up (va_up (va_up (va_up (va_up (va_up (fun _ => none) 0 (some q14)) 1 (some q17)) 2 (some q20)) 3 (some q23)) 4 (some q26)) 5 (some q29)) 6 (some q32)) 7 (some q35))))))), (q38, .inr (0, [.null, .int 0, .int 0]))] := hD
  refine lv_dup hx hb d_Book_init_80 rfl ?_
  refine lv_bipush (v := (nI 20)) hx hb d_Book_init_81 (by decide) ?_
  have hPc := hP.sub (ws' := [(q38, .inr (0, [.null, .int 0, .int 0]))]) [2] rfl
  have hDc := hD.sub (ws' := [(q38, .inr (0, [.null, .int 0, .int 0]))]) [2] (by decide) rfl
  have hKc := hK.sub (tys' := []) [] rfl
  have hFc := va_free (wc := [(q38, .inr (0, [.null, .int 0, .int 0]))]) hD hS hA [2] rfl
  refine va_callv (va_runI (As := [.int (nI 20)]) (rest := [.ref q38, .int (nI 8), .ref q12]) ⟨hx, hb, hml, hown, ht⟩ (c_Row_init l dC dI q38 H.size 20 (by decide) (by decide)) (cwI 1 ht (xw_good k_22) rfl rfl rfl (ht _ k_1) (ht _ k_78) (ht _ k_21) rfl (by decide +kernel) ⟨(Nat.le_of_ble_eq_true rfl), (Nat.le_of_ble_eq_true rfl)⟩) ⟨fun a U g mk q => by obtain ⟨q0, q1, qP, qK, qD⟩ := q; exact ⟨q0, q1, qP, va_K.moved (u := U) (U := U.calling g mk a) (Vm.Alike.refl U.vm) qK, qD⟩, fun U hU hW => ⟨rfl, by rw [hU], by rw [hU]; exact hPc, va_K.moved hW.alike hKc, hDc.weaken (fun _ _ _ _ => trivial)⟩⟩ rfl rfl hl.1 rfl (lv_room (Nat.le_of_ble_eq_true rfl)) d_Book_init_83 ⟨(Nat.le_of_ble_eq_true rfl), (Nat.le_of_ble_eq_true rfl)⟩) hS (fun q _ h => hFc q h) hFc (fun u t H1 locs ht9 hvm hw hB hz1 hk1 hS => ?_)
  obtain ⟨q39, cA40, hP1, hK1, hD1⟩ := hB
  rw [ht9] at hP1
  have hK1 := va_K.moved hvm.symm hK1
  obtain ⟨hP, hD⟩ := va_join (wr := [(h0, .inr (2, [.int (-1), .int 0, .ref q1, .ref q4, .int 0, .ref q7, .int 0, .ref q10, .int 0, .ref q12, .null, .int 0, .int 0])), (q12, .inl (cA13, 20, .inr (.inr (.inr (.inr (va_up (va_up (va_up (va_up (va_up (va_up (va_up (va_up (fun _ => none) 0 (some q14)) 1 (some q17)) 2 (some q20)) 3 (some q23)) 4 (some q26)) 5 (some q29)) 6 (some q32)) 7 (some q35)))))))]) (w1 := [(q38, .inr (0, [.ref q39, .int 0, .int 0])), (q39, .inl (cA40, 20, .inl (fun _ => 0)))]) hP hD [2] [0, 1] rfl rfl (by decide) (by decide) hk1 hFc hP1 hD1
  have hK := (hK.sub (tys' := [(cA13, .object R_Row)]) [0] rfl).app hK1
  generalize H1 = H at hP hS ⊢
  have hP : va_P (dC, dI) classes [(h0, .inr (2, [.int (-1), .int 0, .ref q1, .ref q4, .int 0, .ref q7, .int 0, .ref q10, .int 0, .ref q12, .null, .int 0, .int 0])), (q12, .inl (cA13, 20, .inr (.inr (.inr (.inr (va_up (va_up (va_up (va_up (va_up (va_up (va_up (va_up (fun _ => none) 0 (some q14)) 1 (some q17)) 2 (some q20)) 3 (some q23)) 4 (some q26)) 5 (some q29)) 6 (some q32)) 7 (some q35))))))), (q38, .inr (0, [.ref q39, .int 0, .int 0])), (q39, .inl (cA40, 20, .inl (fun _ => 0)))] H := hP
  have hD : va_D A [(h0, .inr (2, [.int (-1), .int 0, .ref q1, .ref q4, .int 0, .ref q7, .int 0, .ref q10, .int 0, .ref q12, .null, .int 0, .int 0])), (q12, .inl (cA13, 20, .inr (.inr (.inr (.inr (va_up (va_up (va_up (va_up (va_up (va_up (va_up (va_up (fun _ => none) 0 (some q14)) 1 (some q17)) 2 (some q20)) 3 (some q23)) 4 (some q26)) 5 (some q29)) 6 (some q32)) 7 (some q35))))))), (q38, .inr (0, [.ref q39, .int 0, .int 0])), (q39, .inl (cA40, 20, .inl (fun _ => 0)))] := hD
  have hK : va_K (dC, dI) classes [(cA13, .object R_Row), (cA40, .byte)] s := hK
  refine W.widen (k := 26) (n := 380) (by omega) (by omega) ?_
  refine va_astq hx hb hK hP hD hS 1 0 2 0 rfl rfl rfl rfl (vp_in_nI (by decide) (by decide)) d_Book_init_86 (fun H locs hP hD hS => ?_)
  rw [nI_clamp (by decide)] at hP hD
  have hP : va_P (dC, dI) classes [(h0, .inr (2, [.int (-1), .int 0, .ref q1, .ref q4, .int 0, .ref q7, .int 0, .ref q10, .int 0, .ref q12, .null, .int 0, .int 0])), (q12, .inl (cA13, 20, .inr (.inr (.inr (.inr (va_up (va_up (va_up (va_up (va_up (va_up (va_up (va_up (va_up (fun _ => none) 0 (some q14)) 1 (some q17)) 2 (some q20)) 3 (some q23)) 4 (some q26)) 5 (some q29)) 6 (some q32)) 7 (some q35)) 8 (some q38))))))), (q38, .inr (0, [.ref q39, .int 0, .int 0])), (q39, .inl (cA40, 20, .inl (fun _ => 0)))] H := hP
  have hD : va_D A [(h0, .inr (2, [.int (-1), .int 0, .ref q1, .ref q4, .int 0, .ref q7, .int 0, .ref q10, .int 0, .ref q12, .null, .int 0, .int 0])), (q12, .inl (cA13, 20, .inr (.inr (.inr (.inr (va_up (va_up (va_up (va_up (va_up (va_up (va_up (va_up (va_up (fun _ => none) 0 (some q14)) 1 (some q17)) 2 (some q20)) 3 (some q23)) 4 (some q26)) 5 (some q29)) 6 (some q32)) 7 (some q35)) 8 (some q38))))))), (q38, .inr (0, [.ref q39, .int 0, .int 0])), (q39, .inl (cA40, 20, .inl (fun _ => 0)))] := hD
  have hP := hP.sub (ws' := [(h0, .inr (2, [.int (-1), .int 0, .ref q1, .ref q4, .int 0, .ref q7, .int 0, .ref q10, .int 0, .ref q12, .null, .int 0, .int 0])), (q12, .inl (cA13, 20, .inr (.inr (.inr (.inr (va_up (va_up (va_up (va_up (va_up (va_up (va_up (va_up (va_up (fun _ => none) 0 (some q14)) 1 (some q17)) 2 (some q20)) 3 (some q23)) 4 (some q26)) 5 (some q29)) 6 (some q32)) 7 (some q35)) 8 (some q38)))))))]) [0, 1] rfl
  have hD := hD.sub (ws' := [(h0, .inr (2, [.int (-1), .int 0, .ref q1, .ref q4, .int 0, .ref q7, .int 0, .ref q10, .int 0, .ref q12, .null, .int 0, .int 0])), (q12, .inl (cA13, 20, .inr (.inr (.inr (.inr (va_up (va_up (va_up (va_up (va_up (va_up (va_up (va_up (va_up (fun _ => none) 0 (some q14)) 1 (some q17)) 2 (some q20)) 3 (some q23)) 4 (some q26)) 5 (some q29)) 6 (some q32)) 7 (some q35)) 8 (some q38)))))))]) [0, 1] (by decide) rfl
  have hK := hK.sub (tys' := [(cA13, .object R_Row)]) [0] rfl
  refine lv_iinc (v := (nI 9)) (lv' := [(1, .int (nI 9)), (0, .ref h0)]) hx hb d_Book_init_87 hl (k := 0) rfl (by decide) (by decide) rfl (fun ls hl => ?_)
  refine lv_goto (tgt := 66) hx hb d_Book_init_90 (by decide) ?_
  refine lv_iload_n hx hb d_Book_init_66 rfl (lv_at hl 0 rfl) ?_
  refine lv_bipush (v := (nI 20)) hx hb d_Book_init_67 (by decide) ?_
  refine lv_icmp_ge (tgt := 93) hx hb d_Book_init_69 (by decide) (fun c_69 => absurd c_69 (by decide)) (fun _ => ?_)
  refine lv_aload_n hx hb d_Book_init_72 rfl (lv_at hl 1 rfl) ?_
  refine va_get (D := (dC, dI)) (ci := 2) (v := .ref q12) (C := R_Book) (T := F_Book) (N := 13) hx hb ht i_Book hown hK hP 0 rfl rfl 9 (by decide) (ht _ k_85) (fun _ h9 => h9) rfl d_Book_init_73 ?_
  refine lv_iload_n hx hb d_Book_init_76 rfl (lv_at hl 0 rfl) ?_
  refine va_new (ci := 0) (fs := [.null, .int 0, .int 0]) (C := R_Row) (T := F_Row) (N := 3) hx hb ht i_Row t_Row t_Row_ok hown (ht _ k_77) (ht _ k_19) (ht _ k_1) hK hP hD hS hA rfl (fun j hj => by rcases (show j = 0 ∨ j = 1 ∨ j = 2 by omega) with rfl | rfl | rfl <;> rfl) (Nat.le_of_ble_eq_true rfl) (Nat.le_of_ble_eq_true rfl) d_Book_init_77 (fun q41 H hP hD hS => ?_)
  refine W.widen (k := 27) (n := 383) (by omega) (by omega) ?_
  have hP : va_P (dC, dI) classes [(h0, .inr (2, [.int (-1), .int 0, .ref q1, .ref q4, .int 0, .ref q7, .int 0, .ref q10, .int 0, .ref q12, .null, .int 0, .int 0])), (q12, .inl (cA13, 20, .inr (.inr (.inr (.inr (va_up (va_up (va_up (va_up (va_up (va_up (va_up (va_up (va_up (fun _ => none) 0 (some q14)) 1 (some q17)) 2 (some q20)) 3 (some q23)) 4 (some q26)) 5 (some q29)) 6 (some q32)) 7 (some q35)) 8 (some q38))))))), (q41, .inr (0, [.null, .int 0, .int 0]))] H := hP
  have hD : va_D A [(h0, .inr (2, [.int (-1), .int 0, .ref q1, .ref q4, .int 0, .ref q7, .int 0, .ref q10, .int 0, .ref q12, .null, .int 0, .int 0])), (q12, .inl (cA13, 20, .inr (.inr (.inr (.inr (va_up (va_up (va_up (va_up (va_up (va_up (va_up (va_up (va_up (fun _ => none) 0 (some q14)) 1 (some q17)) 2 (some q20)) 3 (some q23)) 4 (some q26)) 5 (some q29)) 6 (some q32)) 7 (some q35)) 8 (some q38))))))), (q41, .inr (0, [.null, .int 0, .int 0]))] := hD
  refine lv_dup hx hb d_Book_init_80 rfl ?_
  refine lv_bipush (v := (nI 20)) hx hb d_Book_init_81 (by decide) ?_
  have hPc := hP.sub (ws' := [(q41, .inr (0, [.null, .int 0, .int 0]))]) [2] rfl
  have hDc := hD.sub (ws' := [(q41, .inr (0, [.null, .int 0, .int 0]))]) [2] (by decide) rfl
  have hKc := hK.sub (tys' := []) [] rfl
  have hFc := va_free (wc := [(q41, .inr (0, [.null, .int 0, .int 0]))]) hD hS hA [2] rfl
  refine va_callv (va_runI (As := [.int (nI 20)]) (rest := [.ref q41, .int (nI 9), .ref q12]) ⟨hx, hb, hml, hown, ht⟩ (c_Row_init l dC dI q41 H.size 20 (by decide) (by decide)) (cwI 1 ht (xw_good k_22) rfl rfl rfl (ht _ k_1) (ht _ k_78) (ht _ k_21) rfl (by decide +kernel) ⟨(Nat.le_of_ble_eq_true rfl), (Nat.le_of_ble_eq_true rfl)⟩) ⟨fun a U g mk q => by obtain ⟨q0, q1, qP, qK, qD⟩ := q; exact ⟨q0, q1, qP, va_K.moved (u := U) (U := U.calling g mk a) (Vm.Alike.refl U.vm) qK, qD⟩, fun U hU hW => ⟨rfl, by rw [hU], by rw [hU]; exact hPc, va_K.moved hW.alike hKc, hDc.weaken (fun _ _ _ _ => trivial)⟩⟩ rfl rfl hl.1 rfl (lv_room (Nat.le_of_ble_eq_true rfl)) d_Book_init_83 ⟨(Nat.le_of_ble_eq_true rfl), (Nat.le_of_ble_eq_true rfl)⟩) hS (fun q _ h => hFc q h) hFc (fun u t H1 locs ht9 hvm hw hB hz1 hk1 hS => ?_)
  obtain ⟨q42, cA43, hP1, hK1, hD1⟩ := hB
  rw [ht9] at hP1
  have hK1 := va_K.moved hvm.symm hK1
  obtain ⟨hP, hD⟩ := va_join (wr := [(h0, .inr (2, [.int (-1), .int 0, .ref q1, .ref q4, .int 0, .ref q7, .int 0, .ref q10, .int 0, .ref q12, .null, .int 0, .int 0])), (q12, .inl (cA13, 20, .inr (.inr (.inr (.inr (va_up (va_up (va_up (va_up (va_up (va_up (va_up (va_up (va_up (fun _ => none) 0 (some q14)) 1 (some q17)) 2 (some q20)) 3 (some q23)) 4 (some q26)) 5 (some q29)) 6 (some q32)) 7 (some q35)) 8 (some q38)))))))]) (w1 := [(q41, .inr (0, [.ref q42, .int 0, .int 0])), (q42, .inl (cA43, 20, .inl (fun _ => 0)))]) hP hD [2] [0, 1] rfl rfl (by decide) (by decide) hk1 hFc hP1 hD1
  have hK := (hK.sub (tys' := [(cA13, .object R_Row)]) [0] rfl).app hK1
  generalize H1 = H at hP hS ⊢
  have hP : va_P (dC, dI) classes [(h0, .inr (2, [.int (-1), .int 0, .ref q1, .ref q4, .int 0, .ref q7, .int 0, .ref q10, .int 0, .ref q12, .null, .int 0, .int 0])), (q12, .inl (cA13, 20, .inr (.inr (.inr (.inr (va_up (va_up (va_up (va_up (va_up (va_up (va_up (va_up (va_up (fun _ => none) 0 (some q14)) 1 (some q17)) 2 (some q20)) 3 (some q23)) 4 (some q26)) 5 (some q29)) 6 (some q32)) 7 (some q35)) 8 (some q38))))))), (q41, .inr (0, [.ref q42, .int 0, .int 0])), (q42, .inl (cA43, 20, .inl (fun _ => 0)))] H := hP
  have hD : va_D A [(h0, .inr (2, [.int (-1), .int 0, .ref q1, .ref q4, .int 0, .ref q7, .int 0, .ref q10, .int 0, .ref q12, .null, .int 0, .int 0])), (q12, .inl (cA13, 20, .inr (.inr (.inr (.inr (va_up (va_up (va_up (va_up (va_up (va_up (va_up (va_up (va_up (fun _ => none) 0 (some q14)) 1 (some q17)) 2 (some q20)) 3 (some q23)) 4 (some q26)) 5 (some q29)) 6 (some q32)) 7 (some q35)) 8 (some q38))))))), (q41, .inr (0, [.ref q42, .int 0, .int 0])), (q42, .inl (cA43, 20, .inl (fun _ => 0)))] := hD
  have hK : va_K (dC, dI) classes [(cA13, .object R_Row), (cA43, .byte)] s := hK
  refine W.widen (k := 28) (n := 403) (by omega) (by omega) ?_
  refine va_astq hx hb hK hP hD hS 1 0 2 0 rfl rfl rfl rfl (vp_in_nI (by decide) (by decide)) d_Book_init_86 (fun H locs hP hD hS => ?_)
  rw [nI_clamp (by decide)] at hP hD
  have hP : va_P (dC, dI) classes [(h0, .inr (2, [.int (-1), .int 0, .ref q1, .ref q4, .int 0, .ref q7, .int 0, .ref q10, .int 0, .ref q12, .null, .int 0, .int 0])), (q12, .inl (cA13, 20, .inr (.inr (.inr (.inr (va_up (va_up (va_up (va_up (va_up (va_up (va_up (va_up (va_up (va_up (fun _ => none) 0 (some q14)) 1 (some q17)) 2 (some q20)) 3 (some q23)) 4 (some q26)) 5 (some q29)) 6 (some q32)) 7 (some q35)) 8 (some q38)) 9 (some q41))))))), (q41, .inr (0, [.ref q42, .int 0, .int 0])), (q42, .inl (cA43, 20, .inl (fun _ => 0)))] H := hP
  have hD : va_D A [(h0, .inr (2, [.int (-1), .int 0, .ref q1, .ref q4, .int 0, .ref q7, .int 0, .ref q10, .int 0, .ref q12, .null, .int 0, .int 0])), (q12, .inl (cA13, 20, .inr (.inr (.inr (.inr (va_up (va_up (va_up (va_up (va_up (va_up (va_up (va_up (va_up (va_up (fun _ => none) 0 (some q14)) 1 (some q17)) 2 (some q20)) 3 (some q23)) 4 (some q26)) 5 (some q29)) 6 (some q32)) 7 (some q35)) 8 (some q38)) 9 (some q41))))))), (q41, .inr (0, [.ref q42, .int 0, .int 0])), (q42, .inl (cA43, 20, .inl (fun _ => 0)))] := hD
  have hP := hP.sub (ws' := [(h0, .inr (2, [.int (-1), .int 0, .ref q1, .ref q4, .int 0, .ref q7, .int 0, .ref q10, .int 0, .ref q12, .null, .int 0, .int 0])), (q12, .inl (cA13, 20, .inr (.inr (.inr (.inr (va_up (va_up (va_up (va_up (va_up (va_up (va_up (va_up (va_up (va_up (fun _ => none) 0 (some q14)) 1 (some q17)) 2 (some q20)) 3 (some q23)) 4 (some q26)) 5 (some q29)) 6 (some q32)) 7 (some q35)) 8 (some q38)) 9 (some q41)))))))]) [0, 1] rfl
  have hD := hD.sub (ws' := [(h0, .inr (2, [.int (-1), .int 0, .ref q1, .ref q4, .int 0, .ref q7, .int 0, .ref q10, .int 0, .ref q12, .null, .int 0, .int 0])), (q12, .inl (cA13, 20, .inr (.inr (.inr (.inr (va_up (va_up (va_up (va_up (va_up (va_up (va_up (va_up (va_up (va_up (fun _ => none) 0 (some q14)) 1 (some q17)) 2 (some q20)) 3 (some q23)) 4 (some q26)) 5 (some q29)) 6 (some q32)) 7 (some q35)) 8 (some q38)) 9 (some q41)))))))]) [0, 1] (by decide) rfl
  have hK := hK.sub (tys' := [(cA13, .object R_Row)]) [0] rfl
  refine lv_iinc (v := (nI 10)) (lv' := [(1, .int (nI 10)), (0, .ref h0)]) hx hb d_Book_init_87 hl (k := 0) rfl (by decide) (by decide) rfl (fun ls hl => ?_)
  refine lv_goto (tgt := 66) hx hb d_Book_init_90 (by decide) ?_
  refine lv_iload_n hx hb d_Book_init_66 rfl (lv_at hl 0 rfl) ?_
  refine lv_bipush (v := (nI 20)) hx hb d_Book_init_67 (by decide) ?_
  refine lv_icmp_ge (tgt := 93) hx hb d_Book_init_69 (by decide) (fun c_69 => absurd c_69 (by decide)) (fun _ => ?_)
  refine lv_aload_n hx hb d_Book_init_72 rfl (lv_at hl 1 rfl) ?_
  refine va_get (D := (dC, dI)) (ci := 2) (v := .ref q12) (C := R_Book) (T := F_Book) (N := 13) hx hb ht i_Book hown hK hP 0 rfl rfl 9 (by decide) (ht _ k_85) (fun _ h9 => h9) rfl d_Book_init_73 ?_
  refine lv_iload_n hx hb d_Book_init_76 rfl (lv_at hl 0 rfl) ?_
  refine va_new (ci := 0) (fs := [.null, .int 0, .int 0]) (C := R_Row) (T := F_Row) (N := 3) hx hb ht i_Row t_Row t_Row_ok hown (ht _ k_77) (ht _ k_19) (ht _ k_1) hK hP hD hS hA rfl (fun j hj => by rcases (show j = 0 ∨ j = 1 ∨ j = 2 by omega) with rfl | rfl | rfl <;> rfl) (Nat.le_of_ble_eq_true rfl) (Nat.le_of_ble_eq_true rfl) d_Book_init_77 (fun q44 H hP hD hS => ?_)
  refine W.widen (k := 29) (n := 406) (by omega) (by omega) ?_
  have hP : va_P (dC, dI) classes [(h0, .inr (2, [.int (-1), .int 0, .ref q1, .ref q4, .int 0, .ref q7, .int 0, .ref q10, .int 0, .ref q12, .null, .int 0, .int 0])), (q12, .inl (cA13, 20, .inr (.inr (.inr (.inr (va_up (va_up (va_up (va_up (va_up (va_up (va_up (va_up (va_up (va_up (fun _ => none) 0 (some q14)) 1 (some q17)) 2 (some q20)) 3 (some q23)) 4 (some q26)) 5 (some q29)) 6 (some q32)) 7 (some q35)) 8 (some q38)) 9 (some q41))))))), (q44, .inr (0, [.null, .int 0, .int 0]))] H := hP
  have hD : va_D A [(h0, .inr (2, [.int (-1), .int 0, .ref q1, .ref q4, .int 0, .ref q7, .int 0, .ref q10, .int 0, .ref q12, .null, .int 0, .int 0])), (q12, .inl (cA13, 20, .inr (.inr (.inr (.inr (va_up (va_up (va_up (va_up (va_up (va_up (va_up (va_up (va_up (va_up (fun _ => none) 0 (some q14)) 1 (some q17)) 2 (some q20)) 3 (some q23)) 4 (some q26)) 5 (some q29)) 6 (some q32)) 7 (some q35)) 8 (some q38)) 9 (some q41))))))), (q44, .inr (0, [.null, .int 0, .int 0]))] := hD
  refine lv_dup hx hb d_Book_init_80 rfl ?_
  refine lv_bipush (v := (nI 20)) hx hb d_Book_init_81 (by decide) ?_
  have hPc := hP.sub (ws' := [(q44, .inr (0, [.null, .int 0, .int 0]))]) [2] rfl
  have hDc := hD.sub (ws' := [(q44, .inr (0, [.null, .int 0, .int 0]))]) [2] (by decide) rfl
  have hKc := hK.sub (tys' := []) [] rfl
  have hFc := va_free (wc := [(q44, .inr (0, [.null, .int 0, .int 0]))]) hD hS hA [2] rfl
  refine va_callv (va_runI (As := [.int (nI 20)]) (rest := [.ref q44, .int (nI 10), .ref q12]) ⟨hx, hb, hml, hown, ht⟩ (c_Row_init l dC dI q44 H.size 20 (by decide) (by decide)) (cwI 1 ht (xw_good k_22) rfl rfl rfl (ht _ k_1) (ht _ k_78) (ht _ k_21) rfl (by decide +kernel) ⟨(Nat.le_of_ble_eq_true rfl), (Nat.le_of_ble_eq_true rfl)⟩) ⟨fun a U g mk q => by obtain ⟨q0, q1, qP, qK, qD⟩ := q; exact ⟨q0, q1, qP, va_K.moved (u := U) (U := U.calling g mk a) (Vm.Alike.refl U.vm) qK, qD⟩, fun U hU hW => ⟨rfl, by rw [hU], by rw [hU]; exact hPc, va_K.moved hW.alike hKc, hDc.weaken (fun _ _ _ _ => trivial)⟩⟩ rfl rfl hl.1 rfl (lv_room (Nat.le_of_ble_eq_true rfl)) d_Book_init_83 ⟨(Nat.le_of_ble_eq_true rfl), (Nat.le_of_ble_eq_true rfl)⟩) hS (fun q _ h => hFc q h) hFc (fun u t H1 locs ht9 hvm hw hB hz1 hk1 hS => ?_)
  obtain ⟨q45, cA46, hP1, hK1, hD1⟩ := hB
  rw [ht9] at hP1
  have hK1 := va_K.moved hvm.symm hK1
  obtain ⟨hP, hD⟩ := va_join (wr := [(h0, .inr (2, [.int (-1), .int 0, .ref q1, .ref q4, .int 0, .ref q7, .int 0, .ref q10, .int 0, .ref q12, .null, .int 0, .int 0])), (q12, .inl (cA13, 20, .inr (.inr (.inr (.inr (va_up (va_up (va_up (va_up (va_up (va_up (va_up (va_up (va_up (va_up (fun _ => none) 0 (some q14)) 1 (some q17)) 2 (some q20)) 3 (some q23)) 4 (some q26)) 5 (some q29)) 6 (some q32)) 7 (some q35)) 8 (some q38)) 9 (some q41)))))))]) (w1 := [(q44, .inr (0, [.ref q45, .int 0, .int 0])), (q45, .inl (cA46, 20, .inl (fun _ => 0)))]) hP hD [2] [0, 1] rfl rfl (by decide) (by decide) hk1 hFc hP1 hD1
  have hK := (hK.sub (tys' := [(cA13, .object R_Row)]) [0] rfl).app hK1
  generalize H1 = H at hP hS ⊢
  have hP : va_P (dC, dI) classes [(h0, .inr (2, [.int (-1), .int 0, .ref q1, .ref q4, .int 0, .ref q7, .int 0, .ref q10, .int 0, .ref q12, .null, .int 0, .int 0])), (q12, .inl (cA13, 20, .inr (.inr (.inr (.inr (va_up (va_up (va_up (va_up (va_up (va_up (va_up (va_up (va_up (va_up (fun _ => none) 0 (some q14)) 1 (some q17)) 2 (some q20)) 3 (some q23)) 4 (some q26)) 5 (some q29)) 6 (some q32)) 7 (some q35)) 8 (some q38)) 9 (some q41))))))), (q44, .inr (0, [.ref q45, .int 0, .int 0])), (q45, .inl (cA46, 20, .inl (fun _ => 0)))] H := hP
  have hD : va_D A [(h0, .inr (2, [.int (-1), .int 0, .ref q1, .ref q4, .int 0, .ref q7, .int 0, .ref q10, .int 0, .ref q12, .null, .int 0, .int 0])), (q12, .inl (cA13, 20, .inr (.inr (.inr (.inr (va_up (va_up (va_up (va_up (va_up (va_up (va_up (va_up (va_up (va_up (fun _ => none) 0 (some q14)) 1 (some q17)) 2 (some q20)) 3 (some q23)) 4 (some q26)) 5 (some q29)) 6 (some q32)) 7 (some q35)) 8 (some q38)) 9 (some q41))))))), (q44, .inr (0, [.ref q45, .int 0, .int 0])), (q45, .inl (cA46, 20, .inl (fun _ => 0)))] := hD
  have hK : va_K (dC, dI) classes [(cA13, .object R_Row), (cA46, .byte)] s := hK
  refine W.widen (k := 30) (n := 426) (by omega) (by omega) ?_
  refine va_astq hx hb hK hP hD hS 1 0 2 0 rfl rfl rfl rfl (vp_in_nI (by decide) (by decide)) d_Book_init_86 (fun H locs hP hD hS => ?_)
  rw [nI_clamp (by decide)] at hP hD
  have hP : va_P (dC, dI) classes [(h0, .inr (2, [.int (-1), .int 0, .ref q1, .ref q4, .int 0, .ref q7, .int 0, .ref q10, .int 0, .ref q12, .null, .int 0, .int 0])), (q12, .inl (cA13, 20, .inr (.inr (.inr (.inr (va_up (va_up (va_up (va_up (va_up (va_up (va_up (va_up (va_up (va_up (va_up (fun _ => none) 0 (some q14)) 1 (some q17)) 2 (some q20)) 3 (some q23)) 4 (some q26)) 5 (some q29)) 6 (some q32)) 7 (some q35)) 8 (some q38)) 9 (some q41)) 10 (some q44))))))), (q44, .inr (0, [.ref q45, .int 0, .int 0])), (q45, .inl (cA46, 20, .inl (fun _ => 0)))] H := hP
  have hD : va_D A [(h0, .inr (2, [.int (-1), .int 0, .ref q1, .ref q4, .int 0, .ref q7, .int 0, .ref q10, .int 0, .ref q12, .null, .int 0, .int 0])), (q12, .inl (cA13, 20, .inr (.inr (.inr (.inr (va_up (va_up (va_up (va_up (va_up (va_up (va_up (va_up (va_up (va_up (va_up (fun _ => none) 0 (some q14)) 1 (some q17)) 2 (some q20)) 3 (some q23)) 4 (some q26)) 5 (some q29)) 6 (some q32)) 7 (some q35)) 8 (some q38)) 9 (some q41)) 10 (some q44))))))), (q44, .inr (0, [.ref q45, .int 0, .int 0])), (q45, .inl (cA46, 20, .inl (fun _ => 0)))] := hD
  have hP := hP.sub (ws' := [(h0, .inr (2, [.int (-1), .int 0, .ref q1, .ref q4, .int 0, .ref q7, .int 0, .ref q10, .int 0, .ref q12, .null, .int 0, .int 0])), (q12, .inl (cA13, 20, .inr (.inr (.inr (.inr (va_up (va_up (va_up (va_up (va_up (va_up (va_up (va_up (va_up (va_up (va_up (fun _ => none) 0 (some q14)) 1 (some q17)) 2 (some q20)) 3 (some q23)) 4 (some q26)) 5 (some q29)) 6 (some q32)) 7 (some q35)) 8 (some q38)) 9 (some q41)) 10 (some q44)))))))]) [0, 1] rfl
  have hD := hD.sub (ws' := [(h0, .inr (2, [.int (-1), .int 0, .ref q1, .ref q4, .int 0, .ref q7, .int 0, .ref q10, .int 0, .ref q12, .null, .int 0, .int 0])), (q12, .inl (cA13, 20, .inr (.inr (.inr (.inr (va_up (va_up (va_up (va_up (va_up (va_up (va_up (va_up (va_up (va_up (va_up (fun _ => none) 0 (some q14)) 1 (some q17)) 2 (some q20)) 3 (some q23)) 4 (some q26)) 5 (some q29)) 6 (some q32)) 7 (some q35)) 8 (some q38)) 9 (some q41)) 10 (some q44)))))))]) [0, 1] (by decide) rfl
  have hK := hK.sub (tys' := [(cA13, .object R_Row)]) [0] rfl
  refine lv_iinc (v := (nI 11)) (lv' := [(1, .int (nI 11)), (0, .ref h0)]) hx hb d_Book_init_87 hl (k := 0) rfl (by decide) (by decide) rfl (fun ls hl => ?_)
  refine lv_goto (tgt := 66) hx hb d_Book_init_90 (by decide) ?_
  refine lv_iload_n hx hb d_Book_init_66 rfl (lv_at hl 0 rfl) ?_
  refine lv_bipush (v := (nI 20)) hx hb d_Book_init_67 (by decide) ?_
  refine lv_icmp_ge (tgt := 93) hx hb d_Book_init_69 (by decide) (fun c_69 => absurd c_69 (by decide)) (fun _ => ?_)
  refine lv_aload_n hx hb d_Book_init_72 rfl (lv_at hl 1 rfl) ?_
  refine va_get (D := (dC, dI)) (ci := 2) (v := .ref q12) (C := R_Book) (T := F_Book) (N := 13) hx hb ht i_Book hown hK hP 0 rfl rfl 9 (by decide) (ht _ k_85) (fun _ h9 => h9) rfl d_Book_init_73 ?_
  refine lv_iload_n hx hb d_Book_init_76 rfl (lv_at hl 0 rfl) ?_
  refine va_new (ci := 0) (fs := [.null, .int 0, .int 0]) (C := R_Row) (T := F_Row) (N := 3) hx hb ht i_Row t_Row t_Row_ok hown (ht _ k_77) (ht _ k_19) (ht _ k_1) hK hP hD hS hA rfl (fun j hj => by rcases (show j = 0 ∨ j = 1 ∨ j = 2 by omega) with rfl | rfl | rfl <;> rfl) (Nat.le_of_ble_eq_true rfl) (Nat.le_of_ble_eq_true rfl) d_Book_init_77 (fun q47 H hP hD hS => ?_)
  refine W.widen (k := 31) (n := 429) (by omega) (by omega) ?_
  have hP : va_P (dC, dI) classes [(h0, .inr (2, [.int (-1), .int 0, .ref q1, .ref q4, .int 0, .ref q7, .int 0, .ref q10, .int 0, .ref q12, .null, .int 0, .int 0])), (q12, .inl (cA13, 20, .inr (.inr (.inr (.inr (va_up (va_up (va_up (va_up (va_up (va_up (va_up (va_up (va_up (va_up (va_up (fun _ => none) 0 (some q14)) 1 (some q17)) 2 (some q20)) 3 (some q23)) 4 (some q26)) 5 (some q29)) 6 (some q32)) 7 (some q35)) 8 (some q38)) 9 (some q41)) 10 (some q44))))))), (q47, .inr (0, [.null, .int 0, .int 0]))] H := hP
  have hD : va_D A [(h0, .inr (2, [.int (-1), .int 0, .ref q1, .ref q4, .int 0, .ref q7, .int 0, .ref q10, .int 0, .ref q12, .null, .int 0, .int 0])), (q12, .inl (cA13, 20, .inr (.inr (.inr (.inr (va_up (va_up (va_up (va_up (va_up (va_up (va_up (va_up (va_up (va_up (va_up (fun _ => none) 0 (some q14)) 1 (some q17)) 2 (some q20)) 3 (some q23)) 4 (some q26)) 5 (some q29)) 6 (some q32)) 7 (some q35)) 8 (some q38)) 9 (some q41)) 10 (some q44))))))), (q47, .inr (0, [.null, .int 0, .int 0]))] := hD
  refine lv_dup hx hb d_Book_init_80 rfl ?_
  refine lv_bipush (v := (nI 20)) hx hb d_Book_init_81 (by decide) ?_
  have hPc := hP.sub (ws' := [(q47, .inr (0, [.null, .int 0, .int 0]))]) [2] rfl
  have hDc := hD.sub (ws' := [(q47, .inr (0, [.null, .int 0, .int 0]))]) [2] (by decide) rfl
  have hKc := hK.sub (tys' := []) [] rfl
  have hFc := va_free (wc := [(q47, .inr (0, [.null, .int 0, .int 0]))]) hD hS hA [2] rfl
  refine va_callv (va_runI (As := [.int (nI 20)]) (rest := [.ref q47, .int (nI 11), .ref q12]) ⟨hx, hb, hml, hown, ht⟩ (c_Row_init l dC dI q47 H.size 20 (by decide) (by decide)) (cwI 1 ht (xw_good k_22) rfl rfl rfl (ht _ k_1) (ht _ k_78) (ht _ k_21) rfl (by decide +kernel) ⟨(Nat.le_of_ble_eq_true rfl), (Nat.le_of_ble_eq_true rfl)⟩) ⟨fun a U g mk q => by obtain ⟨q0, q1, qP, qK, qD⟩ := q; exact ⟨q0, q1, qP, va_K.moved (u := U) (U := U.calling g mk a) (Vm.Alike.refl U.vm) qK, qD⟩, fun U hU hW => ⟨rfl, by rw [hU], by rw [hU]; exact hPc, va_K.moved hW.alike hKc, hDc.weaken (fun _ _ _ _ => trivial)⟩⟩ rfl rfl hl.1 rfl (lv_room (Nat.le_of_ble_eq_true rfl)) d_Book_init_83 ⟨(Nat.le_of_ble_eq_true rfl), (Nat.le_of_ble_eq_true rfl)⟩) hS (fun q _ h => hFc q h) hFc (fun u t H1 locs ht9 hvm hw hB hz1 hk1 hS => ?_)
  obtain ⟨q48, cA49, hP1, hK1, hD1⟩ := hB
  rw [ht9] at hP1
  have hK1 := va_K.moved hvm.symm hK1
  obtain ⟨hP, hD⟩ := va_join (wr := [(h0, .inr (2, [.int (-1), .int 0, .ref q1, .ref q4, .int 0, .ref q7, .int 0, .ref q10, .int 0, .ref q12, .null, .int 0, .int 0])), (q12, .inl (cA13, 20, .inr (.inr (.inr (.inr (va_up (va_up (va_up (va_up (va_up (va_up (va_up (va_up (va_up (va_up (va_up (fun _ => none) 0 (some q14)) 1 (some q17)) 2 (some q20)) 3 (some q23)) 4 (some q26)) 5 (some q29)) 6 (some q32)) 7 (some q35)) 8 (some q38)) 9 (some q41)) 10 (some q44)))))))]) (w1 := [(q47, .inr (0, [.ref q48, .int 0, .int 0])), (q48, .inl (cA49, 20, .inl (fun _ => 0)))]) hP hD [2] [0, 1] rfl rfl (by decide) (by decide) hk1 hFc hP1 hD1
  have hK := (hK.sub (tys' := [(cA13, .object R_Row)]) [0] rfl).app hK1
  generalize H1 = H at hP hS ⊢
  have hP : va_P (dC, dI) classes [(h0, .inr (2, [.int (-1), .int 0, .ref q1, .ref q4, .int 0, .ref q7, .int 0, .ref q10, .int 0, .ref q12, .null, .int 0, .int 0])), (q12, .inl (cA13, 20, .inr (.inr (.inr (.inr (va_up (va_up (va_up (va_up (va_up (va_up (va_up (va_up (va_up (va_up (va_up (fun _ => none) 0 (some q14)) 1 (some q17)) 2 (some q20)) 3 (some q23)) 4 (some q26)) 5 (some q29)) 6 (some q32)) 7 (some q35)) 8 (some q38)) 9 (some q41)) 10 (some q44))))))), (q47, .inr (0, [.ref q48, .int 0, .int 0])), (q48, .inl (cA49, 20, .inl (fun _ => 0)))] H := hP
  have hD : va_D A [(h0, .inr (2, [.int (-1), .int 0, .ref q1, .ref q4, .int 0, .ref q7, .int 0, .ref q10, .int 0, .ref q12, .null, .int 0, .int 0])), (q12, .inl (cA13, 20, .inr (.inr (.inr (.inr (va_up (va_up (va_up (va_up (va_up (va_up (va_up (va_up (va_up (va_up (va_up (fun _ => none) 0 (some q14)) 1 (some q17)) 2 (some q20)) 3 (some q23)) 4 (some q26)) 5 (some q29)) 6 (some q32)) 7 (some q35)) 8 (some q38)) 9 (some q41)) 10 (some q44))))))), (q47, .inr (0, [.ref q48, .int 0, .int 0])), (q48, .inl (cA49, 20, .inl (fun _ => 0)))] := hD
  have hK : va_K (dC, dI) classes [(cA13, .object R_Row), (cA49, .byte)] s := hK
  refine W.widen (k := 32) (n := 449) (by omega) (by omega) ?_
  refine va_astq hx hb hK hP hD hS 1 0 2 0 rfl rfl rfl rfl (vp_in_nI (by decide) (by decide)) d_Book_init_86 (fun H locs hP hD hS => ?_)
  rw [nI_clamp (by decide)] at hP hD
  have hP : va_P (dC, dI) classes [(h0, .inr (2, [.int (-1), .int 0, .ref q1, .ref q4, .int 0, .ref q7, .int 0, .ref q10, .int 0, .ref q12, .null, .int 0, .int 0])), (q12, .inl (cA13, 20, .inr (.inr (.inr (.inr (va_up (va_up (va_up (va_up (va_up (va_up (va_up (va_up (va_up (va_up (va_up (va_up (fun _ => none) 0 (some q14)) 1 (some q17)) 2 (some q20)) 3 (some q23)) 4 (some q26)) 5 (some q29)) 6 (some q32)) 7 (some q35)) 8 (some q38)) 9 (some q41)) 10 (some q44)) 11 (some q47))))))), (q47, .inr (0, [.ref q48, .int 0, .int 0])), (q48, .inl (cA49, 20, .inl (fun _ => 0)))] H := hP
  have hD : va_D A [(h0, .inr (2, [.int (-1), .int 0, .ref q1, .ref q4, .int 0, .ref q7, .int 0, .ref q10, .int 0, .ref q12, .null, .int 0, .int 0])), (q12, .inl (cA13, 20, .inr (.inr (.inr (.inr (va_up (va_up (va_up (va_up (va_up (va_up (va_up (va_up (va_up (va_up (va_up (va_up (fun _ => none) 0 (some q14)) 1 (some q17)) 2 (some q20)) 3 (some q23)) 4 (some q26)) 5 (some q29)) 6 (some q32)) 7 (some q35)) 8 (some q38)) 9 (some q41)) 10 (some q44)) 11 (some q47))))))), (q47, .inr (0, [.ref q48, .int 0, .int 0])), (q48, .inl (cA49, 20, .inl (fun _ => 0)))] := hD
  have hP := hP.sub (ws' := [(h0, .inr (2, [.int (-1), .int 0, .ref q1, .ref q4, .int 0, .ref q7, .int 0, .ref q10, .int 0, .ref q12, .null, .int 0, .int 0])), (q12, .inl (cA13, 20, .inr (.inr (.inr (.inr (va_up (va_up (va_up (va_up (va_up (va_up (va_up (va_up (va_up (va_up (va_up (va_up (fun _ => none) 0 (some q14)) 1 (some q17)) 2 (some q20)) 3 (some q23)) 4 (some q26)) 5 (some q29)) 6 (some q32)) 7 (some q35)) 8 (some q38)) 9 (some q41)) 10 (some q44)) 11 (some q47)))))))]) [0, 1] rfl
  have hD := hD.sub (ws' := [(h0, .inr (2, [.int (-1), .int 0, .ref q1, .ref q4, .int 0, .ref q7, .int 0, .ref q10, .int 0, .ref q12, .null, .int 0, .int 0])), (q12, .inl (cA13, 20, .inr (.inr (.inr (.inr (va_up (va_up (va_up (va_up (va_up (va_up (va_up (va_up (va_up (va_up (va_up (va_up (fun _ => none) 0 (some q14)) 1 (some q17)) 2 (some q20)) 3 (some q23)) 4 (some q26)) 5 (some q29)) 6 (some q32)) 7 (some q35)) 8 (some q38)) 9 (some q41)) 10 (some q44)) 11 (some q47)))))))]) [0, 1] (by decide) rfl
  have hK := hK.sub (tys' := [(cA13, .object R_Row)]) [0] rfl
  refine lv_iinc (v := (nI 12)) (lv' := [(1, .int (nI 12)), (0, .ref h0)]) hx hb d_Book_init_87 hl (k := 0) rfl (by decide) (by decide) rfl (fun ls hl => ?_)
  refine lv_goto (tgt := 66) hx hb d_Book_init_90 (by decide) ?_
  refine lv_iload_n hx hb d_Book_init_66 rfl (lv_at hl 0 rfl) ?_
  refine lv_bipush (v := (nI 20)) hx hb d_Book_init_67 (by decide) ?_
  refine lv_icmp_ge (tgt := 93) hx hb d_Book_init_69 (by decide) (fun c_69 => absurd c_69 (by decide)) (fun _ => ?_)
  refine lv_aload_n hx hb d_Book_init_72 rfl (lv_at hl 1 rfl) ?_
  refine va_get (D := (dC, dI)) (ci := 2) (v := .ref q12) (C := R_Book) (T := F_Book) (N := 13) hx hb ht i_Book hown hK hP 0 rfl rfl 9 (by decide) (ht _ k_85) (fun _ h9 => h9) rfl d_Book_init_73 ?_
  refine lv_iload_n hx hb d_Book_init_76 rfl (lv_at hl 0 rfl) ?_
  refine va_new (ci := 0) (fs := [.null, .int 0, .int 0]) (C := R_Row) (T := F_Row) (N := 3) hx hb ht i_Row t_Row t_Row_ok hown (ht _ k_77) (ht _ k_19) (ht _ k_1) hK hP hD hS hA rfl (fun j hj => by rcases (show j = 0 ∨ j = 1 ∨ j = 2 by omega) with rfl | rfl | rfl <;> rfl) (Nat.le_of_ble_eq_true rfl) (Nat.le_of_ble_eq_true rfl) d_Book_init_77 (fun q50 H hP hD hS => ?_)
  refine W.widen (k := 33) (n := 452) (by omega) (by omega) ?_
  have hP : va_P (dC, dI) classes [(h0, .inr (2, [.int (-1), .int 0, .ref q1, .ref q4, .int 0, .ref q7, .int 0, .ref q10, .int 0, .ref q12, .null, .int 0, .int 0])), (q12, .inl (cA13, 20, .inr (.inr (.inr (.inr (va_up (va_up (va_up (va_up (va_up (va_up (va_up (va_up (va_up (va_up (va_up (va_up (fun _ => none) 0 (some q14)) 1 (some q17)) 2 (some q20)) 3 (some q23)) 4 (some q26)) 5 (some q29)) 6 (some q32)) 7 (some q35)) 8 (some q38)) 9 (some q41)) 10 (some q44)) 11 (some q47))))))), (q50, .inr (0, [.null, .int 0, .int 0]))] H := hP
  have hD : va_D A [(h0, .inr (2, [.int (-1), .int 0, .ref q1, .ref q4, .int 0, .ref q7, .int 0, .ref q10, .int 0, .ref q12, .null, .int 0, .int 0])), (q12, .inl (cA13, 20, .inr (.inr (.inr (.inr (va_up (va_up (va_up (va_up (va_up (va_up (va_up (va_up (va_up (va_up (va_up (va_up (fun _ => none) 0 (some q14)) 1 (some q17)) 2 (some q20)) 3 (some q23)) 4 (some q26)) 5 (some q29)) 6 (some q32)) 7 (some q35)) 8 (some q38)) 9 (some q41)) 10 (some q44)) 11 (some q47))))))), (q50, .inr (0, [.null, .int 0, .int 0]))] := hD
  refine lv_dup hx hb d_Book_init_80 rfl ?_
  refine lv_bipush (v := (nI 20)) hx hb d_Book_init_81 (by decide) ?_
  have hPc := hP.sub (ws' := [(q50, .inr (0, [.null, .int 0, .int 0]))]) [2] rfl
  have hDc := hD.sub (ws' := [(q50, .inr (0, [.null, .int 0, .int 0]))]) [2] (by decide) rfl
  have hKc := hK.sub (tys' := []) [] rfl
  have hFc := va_free (wc := [(q50, .inr (0, [.null, .int 0, .int 0]))]) hD hS hA [2] rfl
  refine va_callv (va_runI (As := [.int (nI 20)]) (rest := [.ref q50, .int (nI 12), .ref q12]) ⟨hx, hb, hml, hown, ht⟩ (c_Row_init l dC dI q50 H.size 20 (by decide) (by decide)) (cwI 1 ht (xw_good k_22) rfl rfl rfl (ht _ k_1) (ht _ k_78) (ht _ k_21) rfl (by decide +kernel) ⟨(Nat.le_of_ble_eq_true rfl), (Nat.le_of_ble_eq_true rfl)⟩) ⟨fun a U g mk q => by obtain ⟨q0, q1, qP, qK, qD⟩ := q; exact ⟨q0, q1, qP, va_K.moved (u := U) (U := U.calling g mk a) (Vm.Alike.refl U.vm) qK, qD⟩, fun U hU hW => ⟨rfl, by rw [hU], by rw [hU]; exact hPc, va_K.moved hW.alike hKc, hDc.weaken (fun _ _ _ _ => trivial)⟩⟩ rfl rfl hl.1 rfl (lv_room (Nat.le_of_ble_eq_true rfl)) d_Book_init_83 ⟨(Nat.le_of_ble_eq_true rfl), (Nat.le_of_ble_eq_true rfl)⟩) hS (fun q _ h => hFc q h) hFc (fun u t H1 locs ht9 hvm hw hB hz1 hk1 hS => ?_)
  obtain ⟨q51, cA52, hP1, hK1, hD1⟩ := hB
  rw [ht9] at hP1
  have hK1 := va_K.moved hvm.symm hK1
  obtain ⟨hP, hD⟩ := va_join (wr := [(h0, .inr (2, [.int (-1), .int 0, .ref q1, .ref q4, .int 0, .ref q7, .int 0, .ref q10, .int 0, .ref q12, .null, .int 0, .int 0])), (q12, .inl (cA13, 20, .inr (.inr (.inr (.inr (va_up (va_up (va_up (va_up (va_up (va_up (va_up (va_up (va_up (va_up (va_up (va_up (fun _ => none) 0 (some q14)) 1 (some q17)) 2 (some q20)) 3 (some q23)) 4 (some q26)) 5 (some q29)) 6 (some q32)) 7 (some q35)) 8 (some q38)) 9 (some q41)) 10 (some q44)) 11 (some q47)))))))]) (w1 := [(q50, .inr (0, [.ref q51, .int 0, .int 0])), (q51, .inl (cA52, 20, .inl (fun _ => 0)))]) hP hD [2] [0, 1] rfl rfl (by decide) (by decide) hk1 hFc hP1 hD1
  have hK := (hK.sub (tys' := [(cA13, .object R_Row)]) [0] rfl).app hK1
  generalize H1 = H at hP hS ⊢
  have hP : va_P (dC, dI) classes [(h0, .inr (2, [.int (-1), .int 0, .ref q1, .ref q4, .int 0, .ref q7, .int 0, .ref q10, .int 0, .ref q12, .null, .int 0, .int 0])), (q12, .inl (cA13, 20, .inr (.inr (.inr (.inr (va_up (va_up (va_up (va_up (va_up (va_up (va_up (va_up (va_up (va_up (va_up (va_up (fun _ => none) 0 (some q14)) 1 (some q17)) 2 (some q20)) 3 (some q23)) 4 (some q26)) 5 (some q29)) 6 (some q32)) 7 (some q35)) 8 (some q38)) 9 (some q41)) 10 (some q44)) 11 (some q47))))))), (q50, .inr (0, [.ref q51, .int 0, .int 0])), (q51, .inl (cA52, 20, .inl (fun _ => 0)))] H := hP
  have hD : va_D A [(h0, .inr (2, [.int (-1), .int 0, .ref q1, .ref q4, .int 0, .ref q7, .int 0, .ref q10, .int 0, .ref q12, .null, .int 0, .int 0])), (q12, .inl (cA13, 20, .inr (.inr (.inr (.inr (va_up (va_up (va_up (va_up (va_up (va_up (va_up (va_up (va_up (va_up (va_up (va_up (fun _ => none) 0 (some q14)) 1 (some q17)) 2 (some q20)) 3 (some q23)) 4 (some q26)) 5 (some q29)) 6 (some q32)) 7 (some q35)) 8 (some q38)) 9 (some q41)) 10 (some q44)) 11 (some q47))))))), (q50, .inr (0, [.ref q51, .int 0, .int 0])), (q51, .inl (cA52, 20, .inl (fun _ => 0)))] := hD
  have hK : va_K (dC, dI) classes [(cA13, .object R_Row), (cA52, .byte)] s := hK
  refine W.widen (k := 34) (n := 472) (by omega) (by omega) ?_
  refine va_astq hx hb hK hP hD hS 1 0 2 0 rfl rfl rfl rfl (vp_in_nI (by decide) (by decide)) d_Book_init_86 (fun H locs hP hD hS => ?_)
  rw [nI_clamp (by decide)] at hP hD
  have hP : va_P (dC, dI) classes [(h0, .inr (2, [.int (-1), .int 0, .ref q1, .ref q4, .int 0, .ref q7, .int 0, .ref q10, .int 0, .ref q12, .null, .int 0, .int 0])), (q12, .inl (cA13, 20, .inr (.inr (.inr (.inr (va_up (va_up (va_up (va_up (va_up (va_up (va_up (va_up (va_up (va_up (va_up (va_up (va_up (fun _ => none) 0 (some q14)) 1 (some q17)) 2 (some q20)) 3 (some q23)) 4 (some q26)) 5 (some q29)) 6 (some q32)) 7 (some q35)) 8 (some q38)) 9 (some q41)) 10 (some q44)) 11 (some q47)) 12 (some q50))))))), (q50, .inr (0, [.ref q51, .int 0, .int 0])), (q51, .inl (cA52, 20, .inl (fun _ => 0)))] H := hP
  have hD : va_D A [(h0, .inr (2, [.int (-1), .int 0, .ref q1, .ref q4, .int 0, .ref q7, .int 0, .ref q10, .int 0, .ref q12, .null, .int 0, .int 0])), (q12, .inl (cA13, 20, .inr (.inr (.inr (.inr (va_up (va_up (va_up (va_up (va_up (va_up (va_up (va_up (va_up (va_up (va_up (va_up (va_up (fun _ => none) 0 (some q14)) 1 (some q17)) 2 (some q20)) 3 (some q23)) 4 (some q26)) 5 (some q29)) 6 (some q32)) 7 (some q35)) 8 (some q38)) 9 (some q41)) 10 (some q44)) 11 (some q47)) 12 (some q50))))))), (q50, .inr (0, [.ref q51, .int 0, .int 0])), (q51, .inl (cA52, 20, .inl (fun _ => 0)))] := hD
  have hP := hP.sub (ws' := [(h0, .inr (2, [.int (-1), .int 0, .ref q1, .ref q4, .int 0, .ref q7, .int 0, .ref q10, .int 0, .ref q12, .null, .int 0, .int 0])), (q12, .inl (cA13, 20, .inr (.inr (.inr (.inr (va_up (va_up (va_up (va_up (va_up (va_up (va_up (va_up (va_up (va_up (va_up (va_up (va_up (fun _ => none) 0 (some q14)) 1 (some q17)) 2 (some q20)) 3 (some q23)) 4 (some q26)) 5 (some q29)) 6 (some q32)) 7 (some q35)) 8 (some q38)) 9 (some q41)) 10 (some q44)) 11 (some q47)) 12 (some q50)))))))]) [0, 1] rfl
  have hD := hD.sub (ws' := [(h0, .inr (2, [.int (-1), .int 0, .ref q1, .ref q4, .int 0, .ref q7, .int 0, .ref q10, .int 0, .ref q12, .null, .int 0, .int 0])), (q12, .inl (cA13, 20, .inr (.inr (.inr (.inr (va_up (va_up (va_up (va_up (va_up (va_up (va_up (va_up (va_up (va_up (va_up (va_up (va_up (fun _ => none) 0 (some q14)) 1 (some q17)) 2 (some q20)) 3 (some q23)) 4 (some q26)) 5 (some q29)) 6 (some q32)) 7 (some q35)) 8 (some q38)) 9 (some q41)) 10 (some q44)) 11 (some q47)) 12 (some q50)))))))]) [0, 1] (by decide) rfl
  have hK := hK.sub (tys' := [(cA13, .object R_Row)]) [0] rfl
  refine lv_iinc (v := (nI 13)) (lv' := [(1, .int (nI 13)), (0, .ref h0)]) hx hb d_Book_init_87 hl (k := 0) rfl (by decide) (by decide) rfl (fun ls hl => ?_)
  refine lv_goto (tgt := 66) hx hb d_Book_init_90 (by decide) ?_
  refine lv_iload_n hx hb d_Book_init_66 rfl (lv_at hl 0 rfl) ?_
  refine lv_bipush (v := (nI 20)) hx hb d_Book_init_67 (by decide) ?_
  refine lv_icmp_ge (tgt := 93) hx hb d_Book_init_69 (by decide) (fun c_69 => absurd c_69 (by decide)) (fun _ => ?_)
  refine lv_aload_n hx hb d_Book_init_72 rfl (lv_at hl 1 rfl) ?_
  refine va_get (D := (dC, dI)) (ci := 2) (v := .ref q12) (C := R_Book) (T := F_Book) (N := 13) hx hb ht i_Book hown hK hP 0 rfl rfl 9 (by decide) (ht _ k_85) (fun _ h9 => h9) rfl d_Book_init_73 ?_
  refine lv_iload_n hx hb d_Book_init_76 rfl (lv_at hl 0 rfl) ?_
  refine va_new (ci := 0) (fs := [.null, .int 0, .int 0]) (C := R_Row) (T := F_Row) (N := 3) hx hb ht i_Row t_Row t_Row_ok hown (ht _ k_77) (ht _ k_19) (ht _ k_1) hK hP hD hS hA rfl (fun j hj => by rcases (show j = 0 ∨ j = 1 ∨ j = 2 by omega) with rfl | rfl | rfl <;> rfl) (Nat.le_of_ble_eq_true rfl) (Nat.le_of_ble_eq_true rfl) d_Book_init_77 (fun q53 H hP hD hS => ?_)
  refine W.widen (k := 35) (n := 475) (by omega) (by omega) ?_
  have hP : va_P (dC, dI) classes [(h0, .inr (2, [.int (-1), .int 0, .ref q1, .ref q4, .int 0, .ref q7, .int 0, .ref q10, .int 0, .ref q12, .null, .int 0, .int 0])), (q12, .inl (cA13, 20, .inr (.inr (.inr (.inr (va_up (va_up (va_up (va_up (va_up (va_up (va_up (va_up (va_up (va_up (va_up (va_up (va_up (fun _ => none) 0 (some q14)) 1 (some q17)) 2 (some q20)) 3 (some q23)) 4 (some q26)) 5 (some q29)) 6 (some q32)) 7 (some q35)) 8 (some q38)) 9 (some q41)) 10 (some q44)) 11 (some q47)) 12 (some q50))))))), (q53, .inr (0, [.null, .int 0, .int 0]))] H := hP
  have hD : va_D A [(h0, .inr (2, [.int (-1), .int 0, .ref q1, .ref q4, .int 0, .ref q7, .int 0, .ref q10, .int 0, .ref q12, .null, .int 0, .int 0])), (q12, .inl (cA13, 20, .inr (.inr (.inr (.inr (va_up (va_up (va_up (va_up (va_up (va_up (va_up (va_up (va_up (va_up (va_up (va_up (va_up (fun _ => none) 0 (some q14)) 1 (some q17)) 2 (some q20)) 3 (some q23)) 4 (some q26)) 5 (some q29)) 6 (some q32)) 7 (some q35)) 8 (some q38)) 9 (some q41)) 10 (some q44)) 11 (some q47)) 12 (some q50))))))), (q53, .inr (0, [.null, .int 0, .int 0]))] := hD
  refine lv_dup hx hb d_Book_init_80 rfl ?_
  refine lv_bipush (v := (nI 20)) hx hb d_Book_init_81 (by decide) ?_
  have hPc := hP.sub (ws' := [(q53, .inr (0, [.null, .int 0, .int 0]))]) [2] rfl
  have hDc := hD.sub (ws' := [(q53, .inr (0, [.null, .int 0, .int 0]))]) [2] (by decide) rfl
  have hKc := hK.sub (tys' := []) [] rfl
  have hFc := va_free (wc := [(q53, .inr (0, [.null, .int 0, .int 0]))]) hD hS hA [2] rfl
  refine va_callv (va_runI (As := [.int (nI 20)]) (rest := [.ref q53, .int (nI 13), .ref q12]) ⟨hx, hb, hml, hown, ht⟩ (c_Row_init l dC dI q53 H.size 20 (by decide) (by decide)) (cwI 1 ht (xw_good k_22) rfl rfl rfl (ht _ k_1) (ht _ k_78) (ht _ k_21) rfl (by decide +kernel) ⟨(Nat.le_of_ble_eq_true rfl), (Nat.le_of_ble_eq_true rfl)⟩) ⟨fun a U g mk q => by obtain ⟨q0, q1, qP, qK, qD⟩ := q; exact ⟨q0, q1, qP, va_K.moved (u := U) (U := U.calling g mk a) (Vm.Alike.refl U.vm) qK, qD⟩, fun U hU hW => ⟨rfl, by rw [hU], by rw [hU]; exact hPc, va_K.moved hW.alike hKc, hDc.weaken (fun _ _ _ _ => trivial)⟩⟩ rfl rfl hl.1 rfl (lv_room (Nat.le_of_ble_eq_true rfl)) d_Book_init_83 ⟨(Nat.le_of_ble_eq_true rfl), (Nat.le_of_ble_eq_true rfl)⟩) hS (fun q _ h => hFc q h) hFc (fun u t H1 locs ht9 hvm hw hB hz1 hk1 hS => ?_)
  obtain ⟨q54, cA55, hP1, hK1, hD1⟩ := hB
  rw [ht9] at hP1
  have hK1 := va_K.moved hvm.symm hK1
  obtain ⟨hP, hD⟩ := va_join (wr := [(h0, .inr (2, [.int (-1), .int 0, .ref q1, .ref q4, .int 0, .ref q7, .int 0, .ref q10, .int 0, .ref q12, .null, .int 0, .int 0])), (q12, .inl (cA13, 20, .inr (.inr (.inr (.inr (va_up (va_up (va_up (va_up (va_up (va_up (va_up (va_up (va_up (va_up (va_up (va_up (va_up (fun _ => none) 0 (some q14)) 1 (some q17)) 2 (some q20)) 3 (some q23)) 4 (some q26)) 5 (some q29)) 6 (some q32)) 7 (some q35)) 8 (some q38)) 9 (some q41)) 10 (some q44)) 11 (some q47)) 12 (some q50)))))))]) (w1 := [(q53, .inr (0, [.ref q54, .int 0, .int 0])), (q54, .inl (cA55, 20, .inl (fun _ => 0)))]) hP hD [2] [0, 1] rfl rfl (by decide) (by decide) hk1 hFc hP1 hD1
  have hK := (hK.sub (tys' := [(cA13, .object R_Row)]) [0] rfl).app hK1
  generalize H1 = H at hP hS ⊢
  have hP : va_P (dC, dI) classes [(h0, .inr (2, [.int (-1), .int 0, .ref q1, .ref q4, .int 0, .ref q7, .int 0, .ref q10, .int 0, .ref q12, .null, .int 0, .int 0])), (q12, .inl (cA13, 20, .inr (.inr (.inr (.inr (va_up (va_up (va_up (va_up (va_up (va_up (va_up (va_up (va_up (va_up (va_up (va_up (va_up (fun _ => none) 0 (some q14)) 1 (some q17)) 2 (some q20)) 3 (some q23)) 4 (some q26)) 5 (some q29)) 6 (some q32)) 7 (some q35)) 8 (some q38)) 9 (some q41)) 10 (some q44)) 11 (some q47)) 12 (some q50))))))), (q53, .inr (0, [.ref q54, .int 0, .int 0])), (q54, .inl (cA55, 20, .inl (fun _ => 0)))] H := hP
  have hD : va_D A [(h0, .inr (2, [.int (-1), .int 0, .ref q1, .ref q4, .int 0, .ref q7, .int 0, .ref q10, .int 0, .ref q12, .null, .int 0, .int 0])), (q12, .inl (cA13, 20, .inr (.inr (.inr (.inr (va_up (va_up (va_up (va_up (va_up (va_up (va_up (va_up (va_up (va_up (va_up (va_up (va_up (fun _ => none) 0 (some q14)) 1 (some q17)) 2 (some q20)) 3 (some q23)) 4 (some q26)) 5 (some q29)) 6 (some q32)) 7 (some q35)) 8 (some q38)) 9 (some q41)) 10 (some q44)) 11 (some q47)) 12 (some q50))))))), (q53, .inr (0, [.ref q54, .int 0, .int 0])), (q54, .inl (cA55, 20, .inl (fun _ => 0)))] := hD
  have hK : va_K (dC, dI) classes [(cA13, .object R_Row), (cA55, .byte)] s := hK
  refine W.widen (k := 36) (n := 495) (by omega) (by omega) ?_
  refine va_astq hx hb hK hP hD hS 1 0 2 0 rfl rfl rfl rfl (vp_in_nI (by decide) (by decide)) d_Book_init_86 (fun H locs hP hD hS => ?_)
  rw [nI_clamp (by decide)] at hP hD
  have hP : va_P (dC, dI) classes [(h0, .inr (2, [.int (-1), .int 0, .ref q1, .ref q4, .int 0, .ref q7, .int 0, .ref q10, .int 0, .ref q12, .null, .int 0, .int 0])), (q12, .inl (cA13, 20, .inr (.inr (.inr (.inr (va_up (va_up (va_up (va_up (va_up (va_up (va_up (va_up (va_up (va_up (va_up (va_up (va_up (va_up (fun _ => none) 0 (some q14)) 1 (some q17)) 2 (some q20)) 3 (some q23)) 4 (some q26)) 5 (some q29)) 6 (some q32)) 7 (some q35)) 8 (some q38)) 9 (some q41)) 10 (some q44)) 11 (some q47)) 12 (some q50)) 13 (some q53))))))), (q53, .inr (0, [.ref q54, .int 0, .int 0])), (q54, .inl (cA55, 20, .inl (fun _ => 0)))] H := hP
  have hD : va_D A [(h0, .inr (2, [.int (-1), .int 0, .ref q1, .ref q4, .int 0, .ref q7, .int 0, .ref q10, .int 0, .ref q12, .null, .int 0, .int 0])), (q12, .inl (cA13, 20, .inr (.inr (.inr (.inr (va_up (va_up (va_up (va_up (va_up (va_up (va_up (va_up (va_up (va_up (va_up (va_up (va_up (va_up (fun _ => none) 0 (some q14)) 1 (some q17)) 2 (some q20)) 3 (some q23)) 4 (some q26)) 5 (some q29)) 6 (some q32)) 7 (some q35)) 8 (some q38)) 9 (some q41)) 10 (some q44)) 11 (some q47)) 12 (some q50)) 13 (some q53))))))), (q53, .inr (0, [.ref q54, .int 0, .int 0])), (q54, .inl (cA55, 20, .inl (fun _ => 0)))] := hD
  have hP := hP.sub (ws' := [(h0, .inr (2, [.int (-1), .int 0, .ref q1, .ref q4, .int 0, .ref q7, .int 0, .ref q10, .int 0, .ref q12, .null, .int 0, .int 0])), (q12, .inl (cA13, 20, .inr (.inr (.inr (.inr (va_up (va_up (va_up (va_up (va_up (va_up (va_up (va_up (va_up (va_up (va_up (va_up (va_up (va_up (fun _ => none) 0 (some q14)) 1 (some q17)) 2 (some q20)) 3 (some q23)) 4 (some q26)) 5 (some q29)) 6 (some q32)) 7 (some q35)) 8 (some q38)) 9 (some q41)) 10 (some q44)) 11 (some q47)) 12 (some q50)) 13 (some q53)))))))]) [0, 1] rfl
  have hD := hD.sub (ws' := [(h0, .inr (2, [.int (-1), .int 0, .ref q1, .ref q4, .int 0, .ref q7, .int 0, .ref q10, .int 0, .ref q12, .null, .int 0, .int 0])), (q12, .inl (cA13, 20, .inr (.inr (.inr (.inr (va_up (va_up (va_up (va_up (va_up (va_up (va_up (va_up (va_up (va_up (va_up (va_up (va_up (va_up (fun _ => none) 0 (some q14)) 1 (some q17)) 2 (some q20)) 3 (some q23)) 4 (some q26)) 5 (some q29)) 6 (some q32)) 7 (some q35)) 8 (some q38)) 9 (some q41)) 10 (some q44)) 11 (some q47)) 12 (some q50)) 13 (some q53)))))))]) [0, 1] (by decide) rfl
  have hK := hK.sub (tys' := [(cA13, .object R_Row)]) [0] rfl
  refine lv_iinc (v := (nI 14)) (lv' := [(1, .int (nI 14)), (0, .ref h0)]) hx hb d_Book_init_87 hl (k := 0) rfl (by decide) (by decide) rfl (fun ls hl => ?_)
  refine lv_goto (tgt := 66) hx hb d_Book_init_90 (by decide) ?_
  refine lv_iload_n hx hb d_Book_init_66 rfl (lv_at hl 0 rfl) ?_
  refine lv_bipush (v := (nI 20)) hx hb d_Book_init_67 (by decide) ?_
  refine lv_icmp_ge (tgt := 93) hx hb d_Book_init_69 (by decide) (fun c_69 => absurd c_69 (by decide)) (fun _ => ?_)
  refine lv_aload_n hx hb d_Book_init_72 rfl (lv_at hl 1 rfl) ?_
  refine va_get (D := (dC, dI)) (ci := 2) (v := .ref q12) (C := R_Book) (T := F_Book) (N := 13) hx hb ht i_Book hown hK hP 0 rfl rfl 9 (by decide) (ht _ k_85) (fun _ h9 => h9) rfl d_Book_init_73 ?_
  refine lv_iload_n hx hb d_Book_init_76 rfl (lv_at hl 0 rfl) ?_
  refine va_new (ci := 0) (fs := [.null, .int 0, .int 0]) (C := R_Row) (T := F_Row) (N := 3) hx hb ht i_Row t_Row t_Row_ok hown (ht _ k_77) (ht _ k_19) (ht _ k_1) hK hP hD hS hA rfl (fun j hj => by rcases (show j = 0 ∨ j = 1 ∨ j = 2 by omega) with rfl | rfl | rfl <;> rfl) (Nat.le_of_ble_eq_true rfl) (Nat.le_of_ble_eq_true rfl) d_Book_init_77 (fun q56 H hP hD hS => ?_)
  refine W.widen (k := 37) (n := 498) (by omega) (by omega) ?_
  have hP : va_P (dC, dI) classes [(h0, .inr (2, [.int (-1), .int 0, .ref q1, .ref q4, .int 0, .ref q7, .int 0, .ref q10, .int 0, .ref q12, .null, .int 0, .int 0])), (q12, .inl (cA13, 20, .inr (.inr (.inr (.inr (va_up (va_up (va_up (va_up (va_up (va_up (va_up (va_up (va_up (va_up (va_up (va_up (va_up (va_up (fun _ => none) 0 (some q14)) 1 (some q17)) 2 (some q20)) 3 (some q23)) 4 (some q26)) 5 (some q29)) 6 (some q32)) 7 (some q35)) 8 (some q38)) 9 (some q41)) 10 (some q44)) 11 (some q47)) 12 (some q50)) 13 (some q53))))))), (q56, .inr (0, [.null, .int 0, .int 0]))] H := hP
  have hD : va_D A [(h0, .inr (2, [.int (-1), .int 0, .ref q1, .ref q4, .int 0, .ref q7, .int 0, .ref q10, .int 0, .ref q12, .null, .int 0, .int 0])), (q12, .inl (cA13, 20, .inr (.inr (.inr (.inr (va_up (va_up (va_up (va_up (va_up (va_up (va_up (va_up (va_up (va_up (va_up (va_up (va_up (va_up (fun _ => none) 0 (some q14)) 1 (some q17)) 2 (some q20)) 3 (some q23)) 4 (some q26)) 5 (some q29)) 6 (some q32)) 7 (some q35)) 8 (some q38)) 9 (some q41)) 10 (some q44)) 11 (some q47)) 12 (some q50)) 13 (some q53))))))), (q56, .inr (0, [.null, .int 0, .int 0]))] := hD
  refine lv_dup hx hb d_Book_init_80 rfl ?_
  refine lv_bipush (v := (nI 20)) hx hb d_Book_init_81 (by decide) ?_
  have hPc := hP.sub (ws' := [(q56, .inr (0, [.null, .int 0, .int 0]))]) [2] rfl
  have hDc := hD.sub (ws' := [(q56, .inr (0, [.null, .int 0, .int 0]))]) [2] (by decide) rfl
  have hKc := hK.sub (tys' := []) [] rfl
  have hFc := va_free (wc := [(q56, .inr (0, [.null, .int 0, .int 0]))]) hD hS hA [2] rfl
  refine va_callv (va_runI (As := [.int (nI 20)]) (rest := [.ref q56, .int (nI 14), .ref q12]) ⟨hx, hb, hml, hown, ht⟩ (c_Row_init l dC dI q56 H.size 20 (by decide) (by decide)) (cwI 1 ht (xw_good k_22) rfl rfl rfl (ht _ k_1) (ht _ k_78) (ht _ k_21) rfl (by decide +kernel) ⟨(Nat.le_of_ble_eq_true rfl), (Nat.le_of_ble_eq_true rfl)⟩) ⟨fun a U g mk q => by obtain ⟨q0, q1, qP, qK, qD⟩ := q; exact ⟨q0, q1, qP, va_K.moved (u := U) (U := U.calling g mk a) (Vm.Alike.refl U.vm) qK, qD⟩, fun U hU hW => ⟨rfl, by rw [hU], by rw [hU]; exact hPc, va_K.moved hW.alike hKc, hDc.weaken (fun _ _ _ _ => trivial)⟩⟩ rfl rfl hl.1 rfl (lv_room (Nat.le_of_ble_eq_true rfl)) d_Book_init_83 ⟨(Nat.le_of_ble_eq_true rfl), (Nat.le_of_ble_eq_true rfl)⟩) hS (fun q _ h => hFc q h) hFc (fun u t H1 locs ht9 hvm hw hB hz1 hk1 hS => ?_)
  obtain ⟨q57, cA58, hP1, hK1, hD1⟩ := hB
  rw [ht9] at hP1
  have hK1 := va_K.moved hvm.symm hK1
  obtain ⟨hP, hD⟩ := va_join (wr := [(h0, .inr (2, [.int (-1), .int 0, .ref q1, .ref q4, .int 0, .ref q7, .int 0, .ref q10, .int 0, .ref q12, .null, .int 0, .int 0])), (q12, .inl (cA13, 20, .inr (.inr (.inr (.inr (va_up (va_up (va_up (va_up (va_up (va_up (va_up (va_up (va_up (va_up (va_up (va_up (va_up (va_up (fun _ => none) 0 (some q14)) 1 (some q17)) 2 (some q20)) 3 (some q23)) 4 (some q26)) 5 (some q29)) 6 (some q32)) 7 (some q35)) 8 (some q38)) 9 (some q41)) 10 (some q44)) 11 (some q47)) 12 (some q50)) 13 (some q53)))))))]) (w1 := [(q56, .inr (0, [.ref q57, .int 0, .int 0])), (q57, .inl (cA58, 20, .inl (fun _ => 0)))]) hP hD [2] [0, 1] rfl rfl (by decide) (by decide) hk1 hFc hP1 hD1
  have hK := (hK.sub (tys' := [(cA13, .object R_Row)]) [0] rfl).app hK1
  generalize H1 = H at hP hS ⊢
  have hP : va_P (dC, dI) classes [(h0, .inr (2, [.int (-1), .int 0, .ref q1, .ref q4, .int 0, .ref q7, .int 0, .ref q10, .int 0, .ref q12, .null, .int 0, .int 0])), (q12, .inl (cA13, 20, .inr (.inr (.inr (.inr (va_up (va_up (va_up (va_up (va_up (va_up (va_up (va_up (va_up (va_up (va_up (va_up (va_up (va_up (fun _ => none) 0 (some q14)) 1 (some q17)) 2 (some q20)) 3 (some q23)) 4 (some q26)) 5 (some q29)) 6 (some q32)) 7 (some q35)) 8 (some q38)) 9 (some q41)) 10 (some q44)) 11 (some q47)) 12 (some q50)) 13 (some q53))))))), (q56, .inr (0, [.ref q57, .int 0, .int 0])), (q57, .inl (cA58, 20, .inl (fun _ => 0)))] H := hP
  have hD : va_D A [(h0, .inr (2, [.int (-1), .int 0, .ref q1, .ref q4, .int 0, .ref q7, .int 0, .ref q10, .int 0, .ref q12, .null, .int 0, .int 0])), (q12, .inl (cA13, 20, .inr (.inr (.inr (.inr (va_up (va_up (va_up (va_up (va_up (va_up (va_up (va_up (va_up (va_up (va_up (va_up (va_up (va_up (fun _ => none) 0 (some q14)) 1 (some q17)) 2 (some q20)) 3 (some q23)) 4 (some q26)) 5 (some q29)) 6 (some q32)) 7 (some q35)) 8 (some q38)) 9 (some q41)) 10 (some q44)) 11 (some q47)) 12 (some q50)) 13 (some q53))))))), (q56, .inr (0, [.ref q57, .int 0, .int 0])), (q57, .inl (cA58, 20, .inl (fun _ => 0)))] := hD
  have hK : va_K (dC, dI) classes [(cA13, .object R_Row), (cA58, .byte)] s := hK
  refine W.widen (k := 38) (n := 518) (by omega) (by omega) ?_
  refine va_astq hx hb hK hP hD hS 1 0 2 0 rfl rfl rfl rfl (vp_in_nI (by decide) (by decide)) d_Book_init_86 (fun H locs hP hD hS => ?_)
  rw [nI_clamp (by decide)] at hP hD
  have hP : va_P (dC, dI) classes [(h0, .inr (2, [.int (-1), .int 0, .ref q1, .ref q4, .int 0, .ref q7, .int 0, .ref q10, .int 0, .ref q12, .null, .int 0, .int 0])), (q12, .inl (cA13, 20, .inr (.inr (.inr (.inr (va_up (va_up (va_up (va_up (va_up (va_up (va_up (va_up (va_up (va_up (va_up (va_up (va_up (va_up (va_up (fun _ => none) 0 (some q14)) 1 (some q17)) 2 (some q20)) 3 (some q23)) 4 (some q26)) 5 (some q29)) 6 (some q32)) 7 (some q35)) 8 (some q38)) 9 (some q41)) 10 (some q44)) 11 (some q47)) 12 (some q50)) 13 (some q53)) 14 (some q56))))))), (q56, .inr (0, [.ref q57, .int 0, .int 0])), (q57, .inl (cA58, 20, .inl (fun _ => 0)))] H := hP
  have hD : va_D A [(h0, .inr (2, [.int (-1), .int 0, .ref q1, .ref q4, .int 0, .ref q7, .int 0, .ref q10, .int 0, .ref q12, .null, .int 0, .int 0])), (q12, .inl (cA13, 20, .inr (.inr (.inr (.inr (va_up (va_up (va_up (va_up (va_up (va_up (va_up (va_up (va_up (va_up (va_up (va_up (va_up (va_up (va_up (fun _ => none) 0 (some q14)) 1 (some q17)) 2 (some q20)) 3 (some q23)) 4 (some q26)) 5 (some q29)) 6 (some q32)) 7 (some q35)) 8 (some q38)) 9 (some q41)) 10 (some q44)) 11 (some q47)) 12 (some q50)) 13 (some q53)) 14 (some q56))))))), (q56, .inr (0, [.ref q57, .int 0, .int 0])), (q57, .inl (cA58, 20, .inl (fun _ => 0)))] := hD
  have hP := hP.sub (ws' := [(h0, .inr (2, [.int (-1), .int 0, .ref q1, .ref q4, .int 0, .ref q7, .int 0, .ref q10, .int 0, .ref q12, .null, .int 0, .int 0])), (q12, .inl (cA13, 20, .inr (.inr (.inr (.inr (va_up (va_up (va_up (va_up (va_up (va_up (va_up (va_up (va_up (va_up (va_up (va_up (va_up (va_up (va_up (fun _ => none) 0 (some q14)) 1 (some q17)) 2 (some q20)) 3 (some q23)) 4 (some q26)) 5 (some q29)) 6 (some q32)) 7 (some q35)) 8 (some q38)) 9 (some q41)) 10 (some q44)) 11 (some q47)) 12 (some q50)) 13 (some q53)) 14 (some q56)))))))]) [0, 1] rfl
  have hD := hD.sub (ws' := [(h0, .inr (2, [.int (-1), .int 0, .ref q1, .ref q4, .int 0, .ref q7, .int 0, .ref q10, .int 0, .ref q12, .null, .int 0, .int 0])), (q12, .inl (cA13, 20, .inr (.inr (.inr (.inr (va_up (va_up (va_up (va_up (va_up (va_up (va_up (va_up (va_up (va_up (va_up (va_up (va_up (va_up (va_up (fun _ => none) 0 (some q14)) 1 (some q17)) 2 (some q20)) 3 (some q23)) 4 (some q26)) 5 (some q29)) 6 (some q32)) 7 (some q35)) 8 (some q38)) 9 (some q41)) 10 (some q44)) 11 (some q47)) 12 (some q50)) 13 (some q53)) 14 (some q56)))))))]) [0, 1] (by decide) rfl
  have hK := hK.sub (tys' := [(cA13, .object R_Row)]) [0] rfl
  refine lv_iinc (v := (nI 15)) (lv' := [(1, .int (nI 15)), (0, .ref h0)]) hx hb d_Book_init_87 hl (k := 0) rfl (by decide) (by decide) rfl (fun ls hl => ?_)
  refine lv_goto (tgt := 66) hx hb d_Book_init_90 (by decide) ?_
  refine lv_iload_n hx hb d_Book_init_66 rfl (lv_at hl 0 rfl) ?_
  refine lv_bipush (v := (nI 20)) hx hb d_Book_init_67 (by decide) ?_
  refine lv_icmp_ge (tgt := 93) hx hb d_Book_init_69 (by decide) (fun c_69 => absurd c_69 (by decide)) (fun _ => ?_)
  refine lv_aload_n hx hb d_Book_init_72 rfl (lv_at hl 1 rfl) ?_
  refine va_get (D := (dC, dI)) (ci := 2) (v := .ref q12) (C := R_Book) (T := F_Book) (N := 13) hx hb ht i_Book hown hK hP 0 rfl rfl 9 (by decide) (ht _ k_85) (fun _ h9 => h9) rfl d_Book_init_73 ?_
  refine lv_iload_n hx hb d_Book_init_76 rfl (lv_at hl 0 rfl) ?_
  refine va_new (ci := 0) (fs := [.null, .int 0, .int 0]) (C := R_Row) (T := F_Row) (N := 3) hx hb ht i_Row t_Row t_Row_ok hown (ht _ k_77) (ht _ k_19) (ht _ k_1) hK hP hD hS hA rfl (fun j hj => by rcases (show j = 0 ∨ j = 1 ∨ j = 2 by omega) with rfl | rfl | rfl <;> rfl) (Nat.le_of_ble_eq_true rfl) (Nat.le_of_ble_eq_true rfl) d_Book_init_77 (fun q59 H hP hD hS => ?_)
  refine W.widen (k := 39) (n := 521) (by omega) (by omega) ?_
  have hP : va_P (dC, dI) classes [(h0, .inr (2, [.int (-1), .int 0, .ref q1, .ref q4, .int 0, .ref q7, .int 0, .ref q10, .int 0, .ref q12, .null, .int 0, .int 0])), (q12, .inl (cA13, 20, .inr (.inr (.inr (.inr (va_up (va_up (va_up (va_up (va_up (va_up (va_up (va_up (va_up (va_up (va_up (va_up (va_up (va_up (va_up (fun _ => none) 0 (some q14)) 1 (some q17)) 2 (some q20)) 3 (some q23)) 4 (some q26)) 5 (some q29)) 6 (some q32)) 7 (some q35)) 8 (some q38)) 9 (some q41)) 10 (some q44)) 11 (some q47)) 12 (some q50)) 13 (some q53)) 14 (some q56))))))), (q59, .inr (0, [.null, .int 0, .int 0]))] H := hP
  have hD : va_D A [(h0, .inr (2, [.int (-1), .int 0, .ref q1, .ref q4, .int 0, .ref q7, .int 0, .ref q10, .int 0, .ref q12, .null, .int 0, .int 0])), (q12, .inl (cA13, 20, .inr (.inr (.inr (.inr (va_up (va_up (va_up (va_up (va_up (va_up (va_up (va_up (va_up (va_up (va_up (va_up (va_up (va_up (va_up (fun _ => none) 0 (some q14)) 1 (some q17)) 2 (some q20)) 3 (some q23)) 4 (some q26)) 5 (some q29)) 6 (some q32)) 7 (some q35)) 8 (some q38)) 9 (some q41)) 10 (some q44)) 11 (some q47)) 12 (some q50)) 13 (some q53)) 14 (some q56))))))), (q59, .inr (0, [.null, .int 0, .int 0]))] := hD
  refine lv_dup hx hb d_Book_init_80 rfl ?_
  refine lv_bipush (v := (nI 20)) hx hb d_Book_init_81 (by decide) ?_
  have hPc := hP.sub (ws' := [(q59, .inr (0, [.null, .int 0, .int 0]))]) [2] rfl
  have hDc := hD.sub (ws' := [(q59, .inr (0, [.null, .int 0, .int 0]))]) [2] (by decide) rfl
  have hKc := hK.sub (tys' := []) [] rfl
  have hFc := va_free (wc := [(q59, .inr (0, [.null, .int 0, .int 0]))]) hD hS hA [2] rfl
  refine va_callv (va_runI (As := [.int (nI 20)]) (rest := [.ref q59, .int (nI 15), .ref q12]) ⟨hx, hb, hml, hown, ht⟩ (c_Row_init l dC dI q59 H.size 20 (by decide) (by decide)) (cwI 1 ht (xw_good k_22) rfl rfl rfl (ht _ k_1) (ht _ k_78) (ht _ k_21) rfl (by decide +kernel) ⟨(Nat.le_of_ble_eq_true rfl), (Nat.le_of_ble_eq_true rfl)⟩) ⟨fun a U g mk q => by obtain ⟨q0, q1, qP, qK, qD⟩ := q; exact ⟨q0, q1, qP, va_K.moved (u := U) (U := U.calling g mk a) (Vm.Alike.refl U.vm) qK, qD⟩, fun U hU hW => ⟨rfl, by rw [hU], by rw [hU]; exact hPc, va_K.moved hW.alike hKc, hDc.weaken (fun _ _ _ _ => trivial)⟩⟩ rfl rfl hl.1 rfl (lv_room (Nat.le_of_ble_eq_true rfl)) d_Book_init_83 ⟨(Nat.le_of_ble_eq_true rfl), (Nat.le_of_ble_eq_true rfl)⟩) hS (fun q _ h => hFc q h) hFc (fun u t H1 locs ht9 hvm hw hB hz1 hk1 hS => ?_)
  obtain ⟨q60, cA61, hP1, hK1, hD1⟩ := hB
  rw [ht9] at hP1
  have hK1 := va_K.moved hvm.symm hK1
  obtain ⟨hP, hD⟩ := va_join (wr := [(h0, .inr (2, [.int (-1), .int 0, .ref q1, .ref q4, .int 0, .ref q7, .int 0, .ref q10, .int 0, .ref q12, .null, .int 0, .int 0])), (q12, .inl (cA13, 20, .inr (.inr (.inr (.inr (va_up (va_up (va_up (va_up (va_up (va_up (va_up (va_up (va_up (va_up (va_up (va_up (va_up (va_up (va_up (fun _ => none) 0 (some q14)) 1 (some q17)) 2 (some q20)) 3 (some q23)) 4 (some q26)) 5 (some q29)) 6 (some q32)) 7 (some q35)) 8 (some q38)) 9 (some q41)) 10 (some q44)) 11 (some q47)) 12 (some q50)) 13 (some q53)) 14 (some q56)))))))]) (w1 := [(q59, .inr (0, [.ref q60, .int 0, .int 0])), (q60, .inl (cA61, 20, .inl (fun _ => 0)))]) hP hD [2] [0, 1] rfl rfl (by decide) (by decide) hk1 hFc hP1 hD1
  have hK := (hK.sub (tys' := [(cA13, .object R_Row)]) [0] rfl).app hK1
  generalize H1 = H at hP hS ⊢
  have hP : va_P (dC, dI) classes [(h0, .inr (2, [.int (-1), .int 0, .ref q1, .ref q4, .int 0, .ref q7, .int 0, .ref q10, .int 0, .ref q12, .null, .int 0, .int 0])), (q12, .inl (cA13, 20, .inr (.inr (.inr (.inr (va_up (va_up (va_up (va_up (va_up (va_up (va_up (va_up (va_up (va_up (va_up (va_up (va_up (va_up (va_up (fun _ => none) 0 (some q14)) 1 (some q17)) 2 (some q20)) 3 (some q23)) 4 (some q26)) 5 (some q29)) 6 (some q32)) 7 (some q35)) 8 (some q38)) 9 (some q41)) 10 (some q44)) 11 (some q47)) 12 (some q50)) 13 (some q53)) 14 (some q56))))))), (q59, .inr (0, [.ref q60, .int 0, .int 0])), (q60, .inl (cA61, 20, .inl (fun _ => 0)))] H := hP
  have hD : va_D A [(h0, .inr (2, [.int (-1), .int 0, .ref q1, .ref q4, .int 0, .ref q7, .int 0, .ref q10, .int 0, .ref q12, .null, .int 0, .int 0])), (q12, .inl (cA13, 20, .inr (.inr (.inr (.inr (va_up (va_up (va_up (va_up (va_up (va_up (va_up (va_up (va_up (va_up (va_up (va_up (va_up (va_up (va_up (fun _ => none) 0 (some q14)) 1 (some q17)) 2 (some q20)) 3 (some q23)) 4 (some q26)) 5 (some q29)) 6 (some q32)) 7 (some q35)) 8 (some q38)) 9 (some q41)) 10 (some q44)) 11 (some q47)) 12 (some q50)) 13 (some q53)) 14 (some q56))))))), (q59, .inr (0, [.ref q60, .int 0, .int 0])), (q60, .inl (cA61, 20, .inl (fun _ => 0)))] := hD
  have hK : va_K (dC, dI) classes [(cA13, .object R_Row), (cA61, .byte)] s := hK
  refine W.widen (k := 40) (n := 541) (by omega) (by omega) ?_
  refine va_astq hx hb hK hP hD hS 1 0 2 0 rfl rfl rfl rfl (vp_in_nI (by decide) (by decide)) d_Book_init_86 (fun H locs hP hD hS => ?_)
  rw [nI_clamp (by decide)] at hP hD
  have hP : va_P (dC, dI) classes [(h0, .inr (2, [.int (-1), .int 0, .ref q1, .ref q4, .int 0, .ref q7, .int 0, .ref q10, .int 0, .ref q12, .null, .int 0, .int 0])), (q12, .inl (cA13, 20, .inr (.inr (.inr (.inr (va_up (va_up (va_up (va_up (va_up (va_up (va_up (va_up (va_up (va_up (va_up (va_up (va_up (va_up (va_up (va_up (fun _ => none) 0 (some q14)) 1 (some q17)) 2 (some q20)) 3 (some q23)) 4 (some q26)) 5 (some q29)) 6 (some q32)) 7 (some q35)) 8 (some q38)) 9 (some q41)) 10 (some q44)) 11 (some q47)) 12 (some q50)) 13 (some q53)) 14 (some q56)) 15 (some q59))))))), (q59, .inr (0, [.ref q60, .int 0, .int 0])), (q60, .inl (cA61, 20, .inl (fun _ => 0)))] H := hP
  have hD : va_D A [(h0, .inr (2, [.int (-1), .int 0, .ref q1, .ref q4, .int 0, .ref q7, .int 0, .ref q10, .int 0, .ref q12, .null, .int 0, .int 0])), (q12, .inl (cA13, 20, .inr (.inr (.inr (.inr (va_up (va_up (va_up (va_up (va_up (va_up (va_up (va_up (va_up (va_up (va_up (va_up (va_up (va_up (va_up (va_up (fun _ => none) 0 (some q14)) 1 (some q17)) 2 (some q20)) 3 (some q23)) 4 (some q26)) 5 (some q29)) 6 (some q32)) 7 (some q35)) 8 (some q38)) 9 (some q41)) 10 (some q44)) 11 (some q47)) 12 (some q50)) 13 (some q53)) 14 (some q56)) 15 (some q59))))))), (q59, .inr (0, [.ref q60, .int 0, .int 0])), (q60, .inl (cA61, 20, .inl (fun _ => 0)))] := hD
  have hP := hP.sub (ws' := [(h0, .inr (2, [.int (-1), .int 0, .ref q1, .ref q4, .int 0, .ref q7, .int 0, .ref q10, .int 0, .ref q12, .null, .int 0, .int 0])), (q12, .inl (cA13, 20, .inr (.inr (.inr (.inr (va_up (va_up (va_up (va_up (va_up (va_up (va_up (va_up (va_up (va_up (va_up (va_up (va_up (va_up (va_up (va_up (fun _ => none) 0 (some q14)) 1 (some q17)) 2 (some q20)) 3 (some q23)) 4 (some q26)) 5 (some q29)) 6 (some q32)) 7 (some q35)) 8 (some q38)) 9 (some q41)) 10 (some q44)) 11 (some q47)) 12 (some q50)) 13 (some q53)) 14 (some q56)) 15 (some q59)))))))]) [0, 1] rfl
  have hD := hD.sub (ws' := [(h0, .inr (2, [.int (-1), .int 0, .ref q1, .ref q4, .int 0, .ref q7, .int 0, .ref q10, .int 0, .ref q12, .null, .int 0, .int 0])), (q12, .inl (cA13, 20, .inr (.inr (.inr (.inr (va_up (va_up (va_up (va_up (va_up (va_up (va_up (va_up (va_up (va_up (va_up (va_up (va_up (va_up (va_up (va_up (fun _ => none) 0 (some q14)) 1 (some q17)) 2 (some q20)) 3 (some q23)) 4 (some q26)) 5 (some q29)) 6 (some q32)) 7 (some q35)) 8 (some q38)) 9 (some q41)) 10 (some q44)) 11 (some q47)) 12 (some q50)) 13 (some q53)) 14 (some q56)) 15 (some q59)))))))]) [0, 1] (by decide) rfl
  have hK := hK.sub (tys' := [(cA13, .object R_Row)]) [0] rfl
  refine lv_iinc (v := (nI 16)) (lv' := [(1, .int (nI 16)), (0, .ref h0)]) hx hb d_Book_init_87 hl (k := 0) rfl (by decide) (by decide) rfl (fun ls hl => ?_)
  refine lv_goto (tgt := 66) hx hb d_Book_init_90 (by decide) ?_
  refine lv_iload_n hx hb d_Book_init_66 rfl (lv_at hl 0 rfl) ?_
  refine lv_bipush (v := (nI 20)) hx hb d_Book_init_67 (by decide) ?_
  refine lv_icmp_ge (tgt := 93) hx hb d_Book_init_69 (by decide) (fun c_69 => absurd c_69 (by decide)) (fun _ => ?_)
  refine lv_aload_n hx hb d_Book_init_72 rfl (lv_at hl 1 rfl) ?_
  refine va_get (D := (dC, dI)) (ci := 2) (v := .ref q12) (C := R_Book) (T := F_Book) (N := 13) hx hb ht i_Book hown hK hP 0 rfl rfl 9 (by decide) (ht _ k_85) (fun _ h9 => h9) rfl d_Book_init_73 ?_
  refine lv_iload_n hx hb d_Book_init_76 rfl (lv_at hl 0 rfl) ?_
  refine va_new (ci := 0) (fs := [.null, .int 0, .int 0]) (C := R_Row) (T := F_Row) (N := 3) hx hb ht i_Row t_Row t_Row_ok hown (ht _ k_77) (ht _ k_19) (ht _ k_1) hK hP hD hS hA rfl (fun j hj => by rcases (show j = 0 ∨ j = 1 ∨ j = 2 by omega) with rfl | rfl | rfl <;> rfl) (Nat.le_of_ble_eq_true rfl) (Nat.le_of_ble_eq_true rfl) d_Book_init_77 (fun q62 H hP hD hS => ?_)
  refine W.widen (k := 41) (n := 544) (by omega) (by omega) ?_
  have hP : va_P (dC, dI) classes [(h0, .inr (2, [.int (-1), .int 0, .ref q1, .ref q4, .int 0, .ref q7, .int 0, .ref q10, .int 0, .ref q12, .null, .int 0, .int 0])), (q12, .inl (cA13, 20, .inr (.inr (.inr (.inr (va_up (va_up (va_up (va_up (va_up (va_up (va_up (va_up (va_up (va_up (va_up (va_up (va_up (va_up (va_up (va_up (fun _ => none) 0 (some q14)) 1 (some q17)) 2 (some q20)) 3 (some q23)) 4 (some q26)) 5 (some q29)) 6 (some q32)) 7 (some q35)) 8 (some q38)) 9 (some q41)) 10 (some q44)) 11 (some q47)) 12 (some q50)) 13 (some q53)) 14 (some q56)) 15 (some q59))))))), (q62, .inr (0, [.null, .int 0, .int 0]))] H := hP
  have hD : va_D A [(h0, .inr (2, [.int (-1), .int 0, .ref q1, .ref q4, .int 0, .ref q7, .int 0, .ref q10, .int 0, .ref q12, .null, .int 0, .int 0])), (q12, .inl (cA13, 20, .inr (.inr (.inr (.inr (va_up (va_up (va_up (va_up (va_up (va_up (va_up (va_up (va_up (va_up (va_up (va_up (va_up (va_up (va_up (va_up (fun _ => none) 0 (some q14)) 1 (some q17)) 2 (some q20)) 3 (some q23)) 4 (some q26)) 5 (some q29)) 6 (some q32)) 7 (some q35)) 8 (some q38)) 9 (some q41)) 10 (some q44)) 11 (some q47)) 12 (some q50)) 13 (some q53)) 14 (some q56)) 15 (some q59))))))), (q62, .inr (0, [.null, .int 0, .int 0]))] := hD
  refine lv_dup hx hb d_Book_init_80 rfl ?_
  refine lv_bipush (v := (nI 20)) hx hb d_Book_init_81 (by decide) ?_
  have hPc := hP.sub (ws' := [(q62, .inr (0, [.null, .int 0, .int 0]))]) [2] rfl
  have hDc := hD.sub (ws' := [(q62, .inr (0, [.null, .int 0, .int 0]))]) [2] (by decide) rfl
  have hKc := hK.sub (tys' := []) [] rfl
  have hFc := va_free (wc := [(q62, .inr (0, [.null, .int 0, .int 0]))]) hD hS hA [2] rfl
  refine va_callv (va_runI (As := [.int (nI 20)]) (rest := [.ref q62, .int (nI 16), .ref q12]) ⟨hx, hb, hml, hown, ht⟩ (c_Row_init l dC dI q62 H.size 20 (by decide) (by decide)) (cwI 1 ht (xw_good k_22) rfl rfl rfl (ht _ k_1) (ht _ k_78) (ht _ k_21) rfl (by decide +kernel) ⟨(Nat.le_of_ble_eq_true rfl), (Nat.le_of_ble_eq_true rfl)⟩) ⟨fun a U g mk q => by obtain ⟨q0, q1, qP, qK, qD⟩ := q; exact ⟨q0, q1, qP, va_K.moved (u := U) (U := U.calling g mk a) (Vm.Alike.refl U.vm) qK, qD⟩, fun U hU hW => ⟨rfl, by rw [hU], by rw [hU]; exact hPc, va_K.moved hW.alike hKc, hDc.weaken (fun _ _ _ _ => trivial)⟩⟩ rfl rfl hl.1 rfl (lv_room (Nat.le_of_ble_eq_true rfl)) d_Book_init_83 ⟨(Nat.le_of_ble_eq_true rfl), (Nat.le_of_ble_eq_true rfl)⟩) hS (fun q _ h => hFc q h) hFc (fun u t H1 locs ht9 hvm hw hB hz1 hk1 hS => ?_)
  obtain ⟨q63, cA64, hP1, hK1, hD1⟩ := hB
  rw [ht9] at hP1
  have hK1 := va_K.moved hvm.symm hK1
  obtain ⟨hP, hD⟩ := va_join (wr := [(h0, .inr (2, [.int (-1), .int 0, .ref q1, .ref q4, .int 0, .ref q7, .int 0, .ref q10, .int 0, .ref q12, .null, .int 0, .int 0])), (q12, .inl (cA13, 20, .inr (.inr (.inr (.inr (va_up (va_up (va_up (va_up (va_up (va_up (va_up (va_up (va_up (va_up (va_up (va_up (va_up (va_up (va_up (va_up (fun _ => none) 0 (some q14)) 1 (some q17)) 2 (some q20)) 3 (some q23)) 4 (some q26)) 5 (some q29)) 6 (some q32)) 7 (some q35)) 8 (some q38)) 9 (some q41)) 10 (some q44)) 11 (some q47)) 12 (some q50)) 13 (some q53)) 14 (some q56)) 15 (some q59)))))))]) (w1 := [(q62, .inr (0, [.ref q63, .int 0, .int 0])), (q63, .inl (cA64, 20, .inl (fun _ => 0)))]) hP hD [2] [0, 1] rfl rfl (by decide) (by decide) hk1 hFc hP1 hD1
  have hK := (hK.sub (tys' := [(cA13, .object R_Row)]) [0] rfl).app hK1
  generalize H1 = H at hP hS ⊢
  have hP : va_P (dC, dI) classes [(h0, .inr (2, [.int (-1), .int 0, .ref q1, .ref q4, .int 0, .ref q7, .int 0, .ref q10, .int 0, .ref q12, .null, .int 0, .int 0])), (q12, .inl (cA13, 20, .inr (.inr (.inr (.inr (va_up (va_up (va_up (va_up (va_up (va_up (va_up (va_up (va_up (va_up (va_up (va_up (va_up (va_up (va_up (va_up (fun _ => none) 0 (some q14)) 1 (some q17)) 2 (some q20)) 3 (some q23)) 4 (some q26)) 5 (some q29)) 6 (some q32)) 7 (some q35)) 8 (some q38)) 9 (some q41)) 10 (some q44)) 11 (some q47)) 12 (some q50)) 13 (some q53)) 14 (some q56)) 15 (some q59))))))), (q62, .inr (0, [.ref q63, .int 0, .int 0])), (q63, .inl (cA64, 20, .inl (fun _ => 0)))] H := hP
  have hD : va_D A [(h0, .inr (2, [.int (-1), .int 0, .ref q1, .ref q4, .int 0, .ref q7, .int 0, .ref q10, .int 0, .ref q12, .null, .int 0, .int 0])), (q12, .inl (cA13, 20, .inr (.inr (.inr (.inr (va_up (va_up (va_up (va_up (va_up (va_up (va_up (va_up (va_up (va_up (va_up (va_up (va_up (va_up (va_up (va_up (fun _ => none) 0 (some q14)) 1 (some q17)) 2 (some q20)) 3 (some q23)) 4 (some q26)) 5 (some q29)) 6 (some q32)) 7 (some q35)) 8 (some q38)) 9 (some q41)) 10 (some q44)) 11 (some q47)) 12 (some q50)) 13 (some q53)) 14 (some q56)) 15 (some q59))))))), (q62, .inr (0, [.ref q63, .int 0, .int 0])), (q63, .inl (cA64, 20, .inl (fun _ => 0)))] := hD
  have hK : va_K (dC, dI) classes [(cA13, .object R_Row), (cA64, .byte)] s := hK
  refine W.widen (k := 42) (n := 564) (by omega) (by omega) ?_
  refine va_astq hx hb hK hP hD hS 1 0 2 0 rfl rfl rfl rfl (vp_in_nI (by decide) (by decide)) d_Book_init_86 (fun H locs hP hD hS => ?_)
  rw [nI_clamp (by decide)] at hP hD
  have hP : va_P (dC, dI) classes [(h0, .inr (2, [.int (-1), .int 0, .ref q1, .ref q4, .int 0, .ref q7, .int 0, .ref q10, .int 0, .ref q12, .null, .int 0, .int 0])), (q12, .inl (cA13, 20, .inr (.inr (.inr (.inr (va_up (va_up (va_up (va_up (va_up (va_up (va_up (va_up (va_up (va_up (va_up (va_up (va_up (va_up (va_up (va_up (va_up (fun _ => none) 0 (some q14)) 1 (some q17)) 2 (some q20)) 3 (some q23)) 4 (some q26)) 5 (some q29)) 6 (some q32)) 7 (some q35)) 8 (some q38)) 9 (some q41)) 10 (some q44)) 11 (some q47)) 12 (some q50)) 13 (some q53)) 14 (some q56)) 15 (some q59)) 16 (some q62))))))), (q62, .inr (0, [.ref q63, .int 0, .int 0])), (q63, .inl (cA64, 20, .inl (fun _ => 0)))] H := hP
  have hD : va_D A [(h0, .inr (2, [.int (-1), .int 0, .ref q1, .ref q4, .int 0, .ref q7, .int 0, .ref q10, .int 0, .ref q12, .null, .int 0, .int 0])), (q12, .inl (cA13, 20, .inr (.inr (.inr (.inr (va_up (va_up (va_up (va_up (va_up (va_up (va_up (va_up (va_up (va_up (va_up (va_up (va_up (va_up (va_up (va_up (va_up (fun _ => none) 0 (some q14)) 1 (some q17)) 2 (some q20)) 3 (some q23)) 4 (some q26)) 5 (some q29)) 6 (some q32)) 7 (some q35)) 8 (some q38)) 9 (some q41)) 10 (some q44)) 11 (some q47)) 12 (some q50)) 13 (some q53)) 14 (some q56)) 15 (some q59)) 16 (some q62))))))), (q62, .inr (0, [.ref q63, .int 0, .int 0])), (q63, .inl (cA64, 20, .inl (fun _ => 0)))] := hD
  have hP := hP.sub (ws' := [(h0, .inr (2, [.int (-1), .int 0, .ref q1, .ref q4, .int 0, .ref q7, .int 0, .ref q10, .int 0, .ref q12, .null, .int 0, .int 0])), (q12, .inl (cA13, 20, .inr (.inr (.inr (.inr (va_up (va_up (va_up (va_up (va_up (va_up (va_up (va_up (va_up (va_up (va_up (va_up (va_up (va_up (va_up (va_up (va_up (fun _ => none) 0 (some q14)) 1 (some q17)) 2 (some q20)) 3 (some q23)) 4 (some q26)) 5 (some q29)) 6 (some q32)) 7 (some q35)) 8 (some q38)) 9 (some q41)) 10 (some q44)) 11 (some q47)) 12 (some q50)) 13 (some q53)) 14 (some q56)) 15 (some q59)) 16 (some q62)))))))]) [0, 1] rfl
  have hD := hD.sub (ws' := [(h0, .inr (2, [.int (-1), .int 0, .ref q1, .ref q4, .int 0, .ref q7, .int 0, .ref q10, .int 0, .ref q12, .null, .int 0, .int 0])), (q12, .inl (cA13, 20, .inr (.inr (.inr (.inr (va_up (va_up (va_up (va_up (va_up (va_up (va_up (va_up (va_up (va_up (va_up (va_up (va_up (va_up (va_up (va_up (va_up (fun _ => none) 0 (some q14)) 1 (some q17)) 2 (some q20)) 3 (some q23)) 4 (some q26)) 5 (some q29)) 6 (some q32)) 7 (some q35)) 8 (some q38)) 9 (some q41)) 10 (some q44)) 11 (some q47)) 12 (some q50)) 13 (some q53)) 14 (some q56)) 15 (some q59)) 16 (some q62)))))))]) [0, 1] (by decide) rfl
  have hK := hK.sub (tys' := [(cA13, .object R_Row)]) [0] rfl
  refine lv_iinc (v := (nI 17)) (lv' := [(1, .int (nI 17)), (0, .ref h0)]) hx hb d_Book_init_87 hl (k := 0) rfl (by decide) (by decide) rfl (fun ls hl => ?_)
  refine lv_goto (tgt := 66) hx hb d_Book_init_90 (by decide) ?_
  refine lv_iload_n hx hb d_Book_init_66 rfl (lv_at hl 0 rfl) ?_
  refine lv_bipush (v := (nI 20)) hx hb d_Book_init_67 (by decide) ?_
  refine lv_icmp_ge (tgt := 93) hx hb d_Book_init_69 (by decide) (fun c_69 => absurd c_69 (by decide)) (fun _ => ?_)
  refine lv_aload_n hx hb d_Book_init_72 rfl (lv_at hl 1 rfl) ?_
  refine va_get (D := (dC, dI)) (ci := 2) (v := .ref q12) (C := R_Book) (T := F_Book) (N := 13) hx hb ht i_Book hown hK hP 0 rfl rfl 9 (by decide) (ht _ k_85) (fun _ h9 => h9) rfl d_Book_init_73 ?_
  refine lv_iload_n hx hb d_Book_init_76 rfl (lv_at hl 0 rfl) ?_
  refine va_new (ci := 0) (fs := [.null, .int 0, .int 0]) (C := R_Row) (T := F_Row) (N := 3) hx hb ht i_Row t_Row t_Row_ok hown (ht _ k_77) (ht _ k_19) (ht _ k_1) hK hP hD hS hA rfl (fun j hj => by rcases (show j = 0 ∨ j = 1 ∨ j = 2 by omega) with rfl | rfl | rfl <;> rfl) (Nat.le_of_ble_eq_true rfl) (Nat.le_of_ble_eq_true rfl) d_Book_init_77 (fun q65 H hP hD hS => ?_)
  refine W.widen (k := 43) (n := 567) (by omega) (by omega) ?_
  have hP : va_P (dC, dI) classes [(h0, .inr (2, [.int (-1), .int 0, .ref q1, .ref q4, .int 0, .ref q7, .int 0, .ref q10, .int 0, .ref q12, .null, .int 0, .int 0])), (q12, .inl (cA13, 20, .inr (.inr (.inr (.inr (va_up (va_up (va_up (va_up (va_up (va_up (va_up (va_up (va_up (va_up (va_up (va_up (va_up (va_up (va_up (va_up (va_up (fun _ => none) 0 (some q14)) 1 (some q17)) 2 (some q20)) 3 (some q23)) 4 (some q26)) 5 (some q29)) 6 (some q32)) 7 (some q35)) 8 (some q38)) 9 (some q41)) 10 (some q44)) 11 (some q47)) 12 (some q50)) 13 (some q53)) 14 (some q56)) 15 (some q59)) 16 (some q62))))))), (q65, .inr (0, [.null, .int 0, .int 0]))] H := hP
  have hD : va_D A [(h0, .inr (2, [.int (-1), .int 0, .ref q1, .ref q4, .int 0, .ref q7, .int 0, .ref q10, .int 0, .ref q12, .null, .int 0, .int 0])), (q12, .inl (cA13, 20, .inr (.inr (.inr (.inr (va_up (va_up (va_up (va_up (va_up (va_up (va_up (va_up (va_up (va_up (va_up (va_up (va_up (va_up (va_up (va_up (va_up (fun _ => none) 0 (some q14)) 1 (some q17)) 2 (some q20)) 3 (some q23)) 4 (some q26)) 5 (some q29)) 6 (some q32)) 7 (some q35)) 8 (some q38)) 9 (some q41)) 10 (some q44)) 11 (some q47)) 12 (some q50)) 13 (some q53)) 14 (some q56)) 15 (some q59)) 16 (some q62))))))), (q65, .inr (0, [.null, .int 0, .int 0]))] := hD
  refine lv_dup hx hb d_Book_init_80 rfl ?_
  refine lv_bipush (v := (nI 20)) hx hb d_Book_init_81 (by decide) ?_
  have hPc := hP.sub (ws' := [(q65, .inr (0, [.null, .int 0, .int 0]))]) [2] rfl
  have hDc := hD.sub (ws' := [(q65, .inr (0, [.null, .int 0, .int 0]))]) [2] (by decide) rfl
  have hKc := hK.sub (tys' := []) [] rfl
  have hFc := va_free (wc := [(q65, .inr (0, [.null, .int 0, .int 0]))]) hD hS hA [2] rfl
  refine va_callv (va_runI (As := [.int (nI 20)]) (rest := [.ref q65, .int (nI 17), .ref q12]) ⟨hx, hb, hml, hown, ht⟩ (c_Row_init l dC dI q65 H.size 20 (by decide) (by decide)) (cwI 1 ht (xw_good k_22) rfl rfl rfl (ht _ k_1) (ht _ k_78) (ht _ k_21) rfl (by decide +kernel) ⟨(Nat.le_of_ble_eq_true rfl), (Nat.le_of_ble_eq_true rfl)⟩) ⟨fun a U g mk q => by obtain ⟨q0, q1, qP, qK, qD⟩ := q; exact ⟨q0, q1, qP, va_K.moved (u := U) (U := U.calling g mk a) (Vm.Alike.refl U.vm) qK, qD⟩, fun U hU hW => ⟨rfl, by rw [hU], by rw [hU]; exact hPc, va_K.moved hW.alike hKc, hDc.weaken (fun _ _ _ _ => trivial)⟩⟩ rfl rfl hl.1 rfl (lv_room (Nat.le_of_ble_eq_true rfl)) d_Book_init_83 ⟨(Nat.le_of_ble_eq_true rfl), (Nat.le_of_ble_eq_true rfl)⟩) hS (fun q _ h => hFc q h) hFc (fun u t H1 locs ht9 hvm hw hB hz1 hk1 hS => ?_)
  obtain ⟨q66, cA67, hP1, hK1, hD1⟩ := hB
  rw [ht9] at hP1
  have hK1 := va_K.moved hvm.symm hK1
  obtain ⟨hP, hD⟩ := va_join (wr := [(h0, .inr (2, [.int (-1), .int 0, .ref q1, .ref q4, .int 0, .ref q7, .int 0, .ref q10, .int 0, .ref q12, .null, .int 0, .int 0])), (q12, .inl (cA13, 20, .inr (.inr (.inr (.inr (va_up (va_up (va_up (va_up (va_up (va_up (va_up (va_up (va_up (va_up (va_up (va_up (va_up (va_up (va_up (va_up (va_up (fun _ => none) 0 (some q14)) 1 (some q17)) 2 (some q20)) 3 (some q23)) 4 (some q26)) 5 (some q29)) 6 (some q32)) 7 (some q35)) 8 (some q38)) 9 (some q41)) 10 (some q44)) 11 (some q47)) 12 (some q50)) 13 (some q53)) 14 (some q56)) 15 (some q59)) 16 (some q62)))))))]) (w1 := [(q65, .inr (0, [.ref q66, .int 0, .int 0])), (q66, .inl (cA67, 20, .inl (fun _ => 0)))]) hP hD [2] [0, 1] rfl rfl (by decide) (by decide) hk1 hFc hP1 hD1
  have hK := (hK.sub (tys' := [(cA13, .object R_Row)]) [0] rfl).app hK1
  generalize H1 = H at hP hS ⊢
  have hP : va_P (dC, dI) classes [(h0, .inr (2, [.int (-1), .int 0, .ref q1, .ref q4, .int 0, .ref q7, .int 0, .ref q10, .int 0, .ref q12, .null, .int 0, .int 0])), (q12, .inl (cA13, 20, .inr (.inr (.inr (.inr (va_up (va_up (va_up (va_up (va_up (va_up (va_up (va_up (va_up (va_up (va_up (va_up (va_up (va_up (va_up (va_up (va_up (fun _ => none) 0 (some q14)) 1 (some q17)) 2 (some q20)) 3 (some q23)) 4 (some q26)) 5 (some q29)) 6 (some q32)) 7 (some q35)) 8 (some q38)) 9 (some q41)) 10 (some q44)) 11 (some q47)) 12 (some q50)) 13 (some q53)) 14 (some q56)) 15 (some q59)) 16 (some q62))))))), (q65, .inr (0, [.ref q66, .int 0, .int 0])), (q66, .inl (cA67, 20, .inl (fun _ => 0)))] H := hP
  have hD : va_D A [(h0, .inr (2, [.int (-1), .int 0, .ref q1, .ref q4, .int 0, .ref q7, .int 0, .ref q10, .int 0, .ref q12, .null, .int 0, .int 0])), (q12, .inl (cA13, 20, .inr (.inr (.inr (.inr (va_up (va_up (va_up (va_up (va_up (va_up (va_up (va_up (va_up (va_up (va_up (va_up (va_up (va_up (va_up (va_up (va_up (fun _ => none) 0 (some q14)) 1 (some q17)) 2 (some q20)) 3 (some q23)) 4 (some q26)) 5 (some q29)) 6 (some q32)) 7 (some q35)) 8 (some q38)) 9 (some q41)) 10 (some q44)) 11 (some q47)) 12 (some q50)) 13 (some q53)) 14 (some q56)) 15 (some q59)) 16 (some q62))))))), (q65, .inr (0, [.ref q66, .int 0, .int 0])), (q66, .inl (cA67, 20, .inl (fun _ => 0)))] := hD
  have hK : va_K (dC, dI) classes [(cA13, .object R_Row), (cA67, .byte)] s := hK
  refine W.widen (k := 44) (n := 587) (by omega) (by omega) ?_
  refine va_astq hx hb hK hP hD hS 1 0 2 0 rfl rfl rfl rfl (vp_in_nI (by decide) (by decide)) d_Book_init_86 (fun H locs hP hD hS => ?_)
  rw [nI_clamp (by decide)] at hP hD
  have hP : va_P (dC, dI) classes [(h0, .inr (2, [.int (-1), .int 0, .ref q1, .ref q4, .int 0, .ref q7, .int 0, .ref q10, .int 0, .ref q12, .null, .int 0, .int 0])), (q12, .inl (cA13, 20, .inr (.inr (.inr (.inr (va_up (va_up (va_up (va_up (va_up (va_up (va_up (va_up (va_up (va_up (va_up (va_up (va_up (va_up (va_up (va_up (va_up (va_up (fun _ => none) 0 (some q14)) 1 (some q17)) 2 (some q20)) 3 (some q23)) 4 (some q26)) 5 (some q29)) 6 (some q32)) 7 (some q35)) 8 (some q38)) 9 (some q41)) 10 (some q44)) 11 (some q47)) 12 (some q50)) 13 (some q53)) 14 (some q56)) 15 (some q59)) 16 (some q62)) 17 (some q65))))))), (q65, .inr (0, [.ref q66, .int 0, .int 0])), (q66, .inl (cA67, 20, .inl (fun _ => 0)))] H := hP
  have hD : va_D A [(h0, .inr (2, [.int (-1), .int 0, .ref q1, .ref q4, .int 0, .ref q7, .int 0, .ref q10, .int 0, .ref q12, .null, .int 0, .int 0])), (q12, .inl (cA13, 20, .inr (.inr (.inr (.inr (va_up (va_up (va_up (va_up (va_up (va_up (va_up (va_up (va_up (va_up (va_up (va_up (va_up (va_up (va_up (va_up (va_up (va_up (fun _ => none) 0 (some q14)) 1 (some q17)) 2 (some q20)) 3 (some q23)) 4 (some q26)) 5 (some q29)) 6 (some q32)) 7 (some q35)) 8 (some q38)) 9 (some q41)) 10 (some q44)) 11 (some q47)) 12 (some q50)) 13 (some q53)) 14 (some q56)) 15 (some q59)) 16 (some q62)) 17 (some q65))))))), (q65, .inr (0, [.ref q66, .int 0, .int 0])), (q66, .inl (cA67, 20, .inl (fun _ => 0)))] := hD
  have hP := hP.sub (ws' := [(h0, .inr (2, [.int (-1), .int 0, .ref q1, .ref q4, .int 0, .ref q7, .int 0, .ref q10, .int 0, .ref q12, .null, .int 0, .int 0])), (q12, .inl (cA13, 20, .inr (.inr (.inr (.inr (va_up (va_up (va_up (va_up (va_up (va_up (va_up (va_up (va_up (va_up (va_up (va_up (va_up (va_up (va_up (va_up (va_up (va_up (fun _ => none) 0 (some q14)) 1 (some q17)) 2 (some q20)) 3 (some q23)) 4 (some q26)) 5 (some q29)) 6 (some q32)) 7 (some q35)) 8 (some q38)) 9 (some q41)) 10 (some q44)) 11 (some q47)) 12 (some q50)) 13 (some q53)) 14 (some q56)) 15 (some q59)) 16 (some q62)) 17 (some q65)))))))]) [0, 1] rfl
  have hD := hD.sub (ws' := [(h0, .inr (2, [.int (-1), .int 0, .ref q1, .ref q4, .int 0, .ref q7, .int 0, .ref q10, .int 0, .ref q12, .null, .int 0, .int 0])), (q12, .inl (cA13, 20, .inr (.inr (.inr (.inr (va_up (va_up (va_up (va_up (va_up (va_up (va_up (va_up (va_up (va_up (va_up (va_up (va_up (va_up (va_up (va_up (va_up (va_up (fun _ => none) 0 (some q14)) 1 (some q17)) 2 (some q20)) 3 (some q23)) 4 (some q26)) 5 (some q29)) 6 (some q32)) 7 (some q35)) 8 (some q38)) 9 (some q41)) 10 (some q44)) 11 (some q47)) 12 (some q50)) 13 (some q53)) 14 (some q56)) 15 (some q59)) 16 (some q62)) 17 (some q65)))))))]) [0, 1] (by decide) rfl
  have hK := hK.sub (tys' := [(cA13, .object R_Row)]) [0] rfl
  refine lv_iinc (v := (nI 18)) (lv' := [(1, .int (nI 18)), (0, .ref h0)]) hx hb d_Book_init_87 hl (k := 0) rfl (by decide) (by decide) rfl (fun ls hl => ?_)
  refine lv_goto (tgt := 66) hx hb d_Book_init_90 (by decide) ?_
  refine lv_iload_n hx hb d_Book_init_66 rfl (lv_at hl 0 rfl) ?_
  refine lv_bipush (v := (nI 20)) hx hb d_Book_init_67 (by decide) ?_
  refine lv_icmp_ge (tgt := 93) hx hb d_Book_init_69 (by decide) (fun c_69 => absurd c_69 (by decide)) (fun _ => ?_)
  refine lv_aload_n hx hb d_Book_init_72 rfl (lv_at hl 1 rfl) ?_
  refine va_get (D := (dC, dI)) (ci := 2) (v := .ref q12) (C := R_Book) (T := F_Book) (N := 13) hx hb ht i_Book hown hK hP 0 rfl rfl 9 (by decide) (ht _ k_85) (fun _ h9 => h9) rfl d_Book_init_73 ?_
  refine lv_iload_n hx hb d_Book_init_76 rfl (lv_at hl 0 rfl) ?_
  refine va_new (ci := 0) (fs := [.null, .int 0, .int 0]) (C := R_Row) (T := F_Row) (N := 3) hx hb ht i_Row t_Row t_Row_ok hown (ht _ k_77) (ht _ k_19) (ht _ k_1) hK hP hD hS hA rfl (fun j hj => by rcases (show j = 0 ∨ j = 1 ∨ j = 2 by omega) with rfl | rfl | rfl <;> rfl) (Nat.le_of_ble_eq_true rfl) (Nat.le_of_ble_eq_true rfl) d_Book_init_77 (fun q68 H hP hD hS => ?_)
  refine W.widen (k := 45) (n := 590) (by omega) (by omega) ?_
  have hP : va_P (dC, dI) classes [(h0, .inr (2, [.int (-1), .int 0, .ref q1, .ref q4, .int 0, .ref q7, .int 0, .ref q10, .int 0, .ref q12, .null, .int 0, .int 0])), (q12, .inl (cA13, 20, .inr (.inr (.inr (.inr (va_up (va_up (va_up (va_up (va_up (va_up (va_up (va_up (va_up (va_up (va_up (va_up (va_up (va_up (va_up (va_up (va_up (va_up (fun _ => none) 0 (some q14)) 1 (some q17)) 2 (some q20)) 3 (some q23)) 4 (some q26)) 5 (some q29)) 6 (some q32)) 7 (some q35)) 8 (some q38)) 9 (some q41)) 10 (some q44)) 11 (some q47)) 12 (some q50)) 13 (some q53)) 14 (some q56)) 15 (some q59)) 16 (some q62)) 17 (some q65))))))), (q68, .inr (0, [.null, .int 0, .int 0]))] H := hP
  have hD : va_D A [(h0, .inr (2, [.int (-1), .int 0, .ref q1, .ref q4, .int 0, .ref q7, .int 0, .ref q10, .int 0, .ref q12, .null, .int 0, .int 0])), (q12, .inl (cA13, 20, .inr (.inr (.inr (.inr (va_up (va_up (va_up (va_up (va_up (va_up (va_up (va_up (va_up (va_up (va_up (va_up (va_up (va_up (va_up (va_up (va_up (va_up (fun _ => none) 0 (some q14)) 1 (some q17)) 2 (some q20)) 3 (some q23)) 4 (some q26)) 5 (some q29)) 6 (some q32)) 7 (some q35)) 8 (some q38)) 9 (some q41)) 10 (some q44)) 11 (some q47)) 12 (some q50)) 13 (some q53)) 14 (some q56)) 15 (some q59)) 16 (some q62)) 17 (some q65))))))), (q68, .inr (0, [.null, .int 0, .int 0]))] := hD
  refine lv_dup hx hb d_Book_init_80 rfl ?_
  refine lv_bipush (v := (nI 20)) hx hb d_Book_init_81 (by decide) ?_
  have hPc := hP.sub (ws' := [(q68, .inr (0, [.null, .int 0, .int 0]))]) [2] rfl
  have hDc := hD.sub (ws' := [(q68, .inr (0, [.null, .int 0, .int 0]))]) [2] (by decide) rfl
  have hKc := hK.sub (tys' := []) [] rfl
  have hFc := va_free (wc := [(q68, .inr (0, [.null, .int 0, .int 0]))]) hD hS hA [2] rfl
  refine va_callv (va_runI (As := [.int (nI 20)]) (rest := [.ref q68, .int (nI 18), .ref q12]) ⟨hx, hb, hml, hown, ht⟩ (c_Row_init l dC dI q68 H.size 20 (by decide) (by decide)) (cwI 1 ht (xw_good k_22) rfl rfl rfl (ht _ k_1) (ht _ k_78) (ht _ k_21) rfl (by decide +kernel) ⟨(Nat.le_of_ble_eq_true rfl), (Nat.le_of_ble_eq_true rfl)⟩) ⟨fun a U g mk q => by obtain ⟨q0, q1, qP, qK, qD⟩ := q; exact ⟨q0, q1, qP, va_K.moved (u := U) (U := U.calling g mk a) (Vm.Alike.refl U.vm) qK, qD⟩, fun U hU hW => ⟨rfl, by rw [hU], by rw [hU]; exact hPc, va_K.moved hW.alike hKc, hDc.weaken (fun _ _ _ _ => trivial)⟩⟩ rfl rfl hl.1 rfl (lv_room (Nat.le_of_ble_eq_true rfl)) d_Book_init_83 ⟨(Nat.le_of_ble_eq_true rfl), (Nat.le_of_ble_eq_true rfl)⟩) hS (fun q _ h => hFc q h) hFc (fun u t H1 locs ht9 hvm hw hB hz1 hk1 hS => ?_)
  obtain ⟨q69, cA70, hP1, hK1, hD1⟩ := hB
  rw [ht9] at hP1
  have hK1 := va_K.moved hvm.symm hK1
  obtain ⟨hP, hD⟩ := va_join (wr := [(h0, .inr (2, [.int (-1), .int 0, .ref q1, .ref q4, .int 0, .ref q7, .int 0, .ref q10, .int 0, .ref q12, .null, .int 0, .int 0])), (q12, .inl (cA13, 20, .inr (.inr (.inr (.inr (va_up (va_up (va_up (va_up (va_up (va_up (va_up (va_up (va_up (va_up (va_up (va_up (va_up (va_up (va_up (va_up (va_up (va_up (fun _ => none) 0 (some q14)) 1 (some q17)) 2 (some q20)) 3 (some q23)) 4 (some q26)) 5 (some q29)) 6 (some q32)) 7 (some q35)) 8 (some q38)) 9 (some q41)) 10 (some q44)) 11 (some q47)) 12 (some q50)) 13 (some q53)) 14 (some q56)) 15 (some q59)) 16 (some q62)) 17 (some q65)))))))]) (w1 := [(q68, .inr (0, [.ref q69, .int 0, .int 0])), (q69, .inl (cA70, 20, .inl (fun _ => 0)))]) hP hD [2] [0, 1] rfl rfl (by decide) (by decide) hk1 hFc hP1 hD1
  have hK := (hK.sub (tys' := [(cA13, .object R_Row)]) [0] rfl).app hK1
  generalize H1 = H at hP hS ⊢
  have hP : va_P (dC, dI) classes [(h0, .inr (2, [.int (-1), .int 0, .ref q1, .ref q4, .int 0, .ref q7, .int 0, .ref q10, .int 0, .ref q12, .null, .int 0, .int 0])), (q12, .inl (cA13, 20, .inr (.inr (.inr (.inr (va_up (va_up (va_up (va_up (va_up (va_up (va_up (va_up (va_up (va_up (va_up (va_up (va_up (va_up (va_up (va_up (va_up (va_up (fun _ => none) 0 (some q14)) 1 (some q17)) 2 (some q20)) 3 (some q23)) 4 (some q26)) 5 (some q29)) 6 (some q32)) 7 (some q35)) 8 (some q38)) 9 (some q41)) 10 (some q44)) 11 (some q47)) 12 (some q50)) 13 (some q53)) 14 (some q56)) 15 (some q59)) 16 (some q62)) 17 (some q65))))))), (q68, .inr (0, [.ref q69, .int 0, .int 0])), (q69, .inl (cA70, 20, .inl (fun _ => 0)))] H := hP
  have hD : va_D A [(h0, .inr (2, [.int (-1), .int 0, .ref q1, .ref q4, .int 0, .ref q7, .int 0, .ref q10, .int 0, .ref q12, .null, .int 0, .int 0])), (q12, .inl (cA13, 20, .inr (.inr (.inr (.inr (va_up (va_up (va_up (va_up (va_up (va_up (va_up (va_up (va_up (va_up (va_up (va_up (va_up (va_up (va_up (va_up (va_up (va_up (fun _ => none) 0 (some q14)) 1 (some q17)) 2 (some q20)) 3 (some q23)) 4 (some q26)) 5 (some q29)) 6 (some q32)) 7 (some q35)) 8 (some q38)) 9 (some q41)) 10 (some q44)) 11 (some q47)) 12 (some q50)) 13 (some q53)) 14 (some q56)) 15 (some q59)) 16 (some q62)) 17 (some q65))))))), (q68, .inr (0, [.ref q69, .int 0, .int 0])), (q69, .inl (cA70, 20, .inl (fun _ => 0)))] := hD
  have hK : va_K (dC, dI) classes [(cA13, .object R_Row), (cA70, .byte)] s := hK
  refine W.widen (k := 46) (n := 610) (by omega) (by omega) ?_
  refine va_astq hx hb hK hP hD hS 1 0 2 0 rfl rfl rfl rfl (vp_in_nI (by decide) (by decide)) d_Book_init_86 (fun H locs hP hD hS => ?_)
  rw [nI_clamp (by decide)] at hP hD
  have hP : va_P (dC, dI) classes [(h0, .inr (2, [.int (-1), .int 0, .ref q1, .ref q4, .int 0, .ref q7, .int 0, .ref q10, .int 0, .ref q12, .null, .int 0, .int 0])), (q12, .inl (cA13, 20, .inr (.inr (.inr (.inr (va_up (va_up (va_up (va_up (va_up (va_up (va_up (va_up (va_up (va_up (va_up (va_up (va_up (va_up (va_up (va_up (va_up (va_up (va_up (fun _ => none) 0 (some q14)) 1 (some q17)) 2 (some q20)) 3 (some q23)) 4 (some q26)) 5 (some q29)) 6 (some q32)) 7 (some q35)) 8 (some q38)) 9 (some q41)) 10 (some q44)) 11 (some q47)) 12 (some q50)) 13 (some q53)) 14 (some q56)) 15 (some q59)) 16 (some q62)) 17 (some q65)) 18 (some q68))))))), (q68, .inr (0, [.ref q69, .int 0, .int 0])), (q69, .inl (cA70, 20, .inl (fun _ => 0)))] H := hP
  have hD : va_D A [(h0, .inr (2, [.int (-1), .int 0, .ref q1, .ref q4, .int 0, .ref q7, .int 0, .ref q10, .int 0, .ref q12, .null, .int 0, .int 0])), (q12, .inl (cA13, 20, .inr (.inr (.inr (.inr (va_up (va_up (va_up (va_up (va_up (va_up (va_up (va_up (va_up (va_up (va_up (va_up (va_up (va_up (va_up (va_up (va_up (va_up (va_up (fun _ => none) 0 (some q14)) 1 (some q17)) 2 (some q20)) 3 (some q23)) 4 (some q26)) 5 (some q29)) 6 (some q32)) 7 (some q35)) 8 (some q38)) 9 (some q41)) 10 (some q44)) 11 (some q47)) 12 (some q50)) 13 (some q53)) 14 (some q56)) 15 (some q59)) 16 (some q62)) 17 (some q65)) 18 (some q68))))))), (q68, .inr (0, [.ref q69, .int 0, .int 0])), (q69, .inl (cA70, 20, .inl (fun _ => 0)))] := hD
  have hP := hP.sub (ws' := [(h0, .inr (2, [.int (-1), .int 0, .ref q1, .ref q4, .int 0, .ref q7, .int 0, .ref q10, .int 0, .ref q12, .null, .int 0, .int 0])), (q12, .inl (cA13, 20, .inr (.inr (.inr (.inr (va_up (va_up (va_up (va_up (va_up (va_up (va_up (va_up (va_up (va_up (va_up (va_up (va_up (va_up (va_up (va_up (va_up (va_up (va_up (fun _ => none) 0 (some q14)) 1 (some q17)) 2 (some q20)) 3 (some q23)) 4 (some q26)) 5 (some q29)) 6 (some q32)) 7 (some q35)) 8 (some q38)) 9 (some q41)) 10 (some q44)) 11 (some q47)) 12 (some q50)) 13 (some q53)) 14 (some q56)) 15 (some q59)) 16 (some q62)) 17 (some q65)) 18 (some q68)))))))]) [0, 1] rfl
  have hD := hD.sub (ws' := [(h0, .inr (2, [.int (-1), .int 0, .ref q1, .ref q4, .int 0, .ref q7, .int 0, .ref q10, .int 0, .ref q12, .null, .int 0, .int 0])), (q12, .inl (cA13, 20, .inr (.inr (.inr (.inr (va_up (va_up (va_up (va_up (va_up (va_up (va_up (va_up (va_up (va_up (va_up (va_up (va_up (va_up (va_up (va_up (va_up (va_up (va_up (fun _ => none) 0 (some q14)) 1 (some q17)) 2 (some q20)) 3 (some q23)) 4 (some q26)) 5 (some q29)) 6 (some q32)) 7 (some q35)) 8 (some q38)) 9 (some q41)) 10 (some q44)) 11 (some q47)) 12 (some q50)) 13 (some q53)) 14 (some q56)) 15 (some q59)) 16 (some q62)) 17 (some q65)) 18 (some q68)))))))]) [0, 1] (by decide) rfl
  have hK := hK.sub (tys' := [(cA13, .object R_Row)]) [0] rfl
  refine lv_iinc (v := (nI 19)) (lv' := [(1, .int (nI 19)), (0, .ref h0)]) hx hb d_Book_init_87 hl (k := 0) rfl (by decide) (by decide) rfl (fun ls hl => ?_)
  refine lv_goto (tgt := 66) hx hb d_Book_init_90 (by decide) ?_
  refine lv_iload_n hx hb d_Book_init_66 rfl (lv_at hl 0 rfl) ?_
  refine lv_bipush (v := (nI 20)) hx hb d_Book_init_67 (by decide) ?_
  refine lv_icmp_ge (tgt := 93) hx hb d_Book_init_69 (by decide) (fun c_69 => absurd c_69 (by decide)) (fun _ => ?_)
  refine lv_aload_n hx hb d_Book_init_72 rfl (lv_at hl 1 rfl) ?_
  refine va_get (D := (dC, dI)) (ci := 2) (v := .ref q12) (C := R_Book) (T := F_Book) (N := 13) hx hb ht i_Book hown hK hP 0 rfl rfl 9 (by decide) (ht _ k_85) (fun _ h9 => h9) rfl d_Book_init_73 ?_
  refine lv_iload_n hx hb d_Book_init_76 rfl (lv_at hl 0 rfl) ?_
  refine va_new (ci := 0) (fs := [.null, .int 0, .int 0]) (C := R_Row) (T := F_Row) (N := 3) hx hb ht i_Row t_Row t_Row_ok hown (ht _ k_77) (ht _ k_19) (ht _ k_1) hK hP hD hS hA rfl (fun j hj => by rcases (show j = 0 ∨ j = 1 ∨ j = 2 by omega) with rfl | rfl | rfl <;> rfl) (Nat.le_of_ble_eq_true rfl) (Nat.le_of_ble_eq_true rfl) d_Book_init_77 (fun q71 H hP hD hS => ?_)
  refine W.widen (k := 47) (n := 613) (by omega) (by omega) ?_
  have hP : va_P (dC, dI) classes [(h0, .inr (2, [.int (-1), .int 0, .ref q1, .ref q4, .int 0, .ref q7, .int 0, .ref q10, .int 0, .ref q12, .null, .int 0, .int 0])), (q12, .inl (cA13, 20, .inr (.inr (.inr (.inr (va_up (va_up (va_up (va_up (va_up (va_up (va_up (va_up (va_up (va_up (va_up (va_up (va_up (va_up (va_up (va_up (va_up (va_up (va_up (fun _ => none) 0 (some q14)) 1 (some q17)) 2 (some q20)) 3 (some q23)) 4 (some q26)) 5 (some q29)) 6 (some q32)) 7 (some q35)) 8 (some q38)) 9 (some q41)) 10 (some q44)) 11 (some q47)) 12 (some q50)) 13 (some q53)) 14 (some q56)) 15 (some q59)) 16 (some q62)) 17 (some q65)) 18 (some q68))))))), (q71, .inr (0, [.null, .int 0, .int 0]))] H := hP
  have hD : va_D A [(h0, .inr (2, [.int (-1), .int 0, .ref q1, .ref q4, .int 0, .ref q7, .int 0, .ref q10, .int 0, .ref q12, .null, .int 0, .int 0])), (q12, .inl (cA13, 20, .inr (.inr (.inr (.inr (va_up (va_up (va_up (va_up (va_up (va_up (va_up (va_up (va_up (va_up (va_up (va_up (va_up (va_up (va_up (va_up (va_up (va_up (va_up (fun _ => none) 0 (some q14)) 1 (some q17)) 2 (some q20)) 3 (some q23)) 4 (some q26)) 5 (some q29)) 6 (some q32)) 7 (some q35)) 8 (some q38)) 9 (some q41)) 10 (some q44)) 11 (some q47)) 12 (some q50)) 13 (some q53)) 14 (some q56)) 15 (some q59)) 16 (some q62)) 17 (some q65)) 18 (some q68))))))), (q71, .inr (0, [.null, .int 0, .int 0]))] := hD
  refine lv_dup hx hb d_Book_init_80 rfl ?_
  refine lv_bipush (v := (nI 20)) hx hb d_Book_init_81 (by decide) ?_
  have hPc := hP.sub (ws' := [(q71, .inr (0, [.null, .int 0, .int 0]))]) [2] rfl
  have hDc := hD.sub (ws' := [(q71, .inr (0, [.null, .int 0, .int 0]))]) [2] (by decide) rfl
  have hKc := hK.sub (tys' := []) [] rfl
  have hFc := va_free (wc := [(q71, .inr (0, [.null, .int 0, .int 0]))]) hD hS hA [2] rfl
  refine va_callv (va_runI (As := [.int (nI 20)]) (rest := [.ref q71, .int (nI 19), .ref q12]) ⟨hx, hb, hml, hown, ht⟩ (c_Row_init l dC dI q71 H.size 20 (by decide) (by decide)) (cwI 1 ht (xw_good k_22) rfl rfl rfl (ht _ k_1) (ht _ k_78) (ht _ k_21) rfl (by decide +kernel) ⟨(Nat.le_of_ble_eq_true rfl), (Nat.le_of_ble_eq_true rfl)⟩) ⟨fun a U g mk q => by obtain ⟨q0, q1, qP, qK, qD⟩ := q; exact ⟨q0, q1, qP, va_K.moved (u := U) (U := U.calling g mk a) (Vm.Alike.refl U.vm) qK, qD⟩, fun U hU hW => ⟨rfl, by rw [hU], by rw [hU]; exact hPc, va_K.moved hW.alike hKc, hDc.weaken (fun _ _ _ _ => trivial)⟩⟩ rfl rfl hl.1 rfl (lv_room (Nat.le_of_ble_eq_true rfl)) d_Book_init_83 ⟨(Nat.le_of_ble_eq_true rfl), (Nat.le_of_ble_eq_true rfl)⟩) hS (fun q _ h => hFc q h) hFc (fun u t H1 locs ht9 hvm hw hB hz1 hk1 hS => ?_)
  obtain ⟨q72, cA73, hP1, hK1, hD1⟩ := hB
  rw [ht9] at hP1
  have hK1 := va_K.moved hvm.symm hK1
  obtain ⟨hP, hD⟩ := va_join (wr := [(h0, .inr (2, [.int (-1), .int 0, .ref q1, .ref q4, .int 0, .ref q7, .int 0, .ref q10, .int 0, .ref q12, .null, .int 0, .int 0])), (q12, .inl (cA13, 20, .inr (.inr (.inr (.inr (va_up (va_up (va_up (va_up (va_up (va_up (va_up (va_up (va_up (va_up (va_up (va_up (va_up (va_up (va_up (va_up (va_up (va_up (va_up (fun _ => none) 0 (some q14)) 1 (some q17)) 2 (some q20)) 3 (some q23)) 4 (some q26)) 5 (some q29)) 6 (some q32)) 7 (some q35)) 8 (some q38)) 9 (some q41)) 10 (some q44)) 11 (some q47)) 12 (some q50)) 13 (some q53)) 14 (some q56)) 15 (some q59)) 16 (some q62)) 17 (some q65)) 18 (some q68)))))))]) (w1 := [(q71, .inr (0, [.ref q72, .int 0, .int 0])), (q72, .inl (cA73, 20, .inl (fun _ => 0)))]) hP hD [2] [0, 1] rfl rfl (by decide) (by decide) hk1 hFc hP1 hD1
  have hK := (hK.sub (tys' := [(cA13, .object R_Row)]) [0] rfl).app hK1
  generalize H1 = H at hP hS ⊢
  have hP : va_P (dC, dI) classes [(h0, .inr (2, [.int (-1), .int 0, .ref q1, .ref q4, .int 0, .ref q7, .int 0, .ref q10, .int 0, .ref q12, .null, .int 0, .int 0])), (q12, .inl (cA13, 20, .inr (.inr (.inr (.inr (va_up (va_up (va_up (va_up (va_up (va_up (va_up (va_up (va_up (va_up (va_up (va_up (va_up (va_up (va_up (va_up (va_up (va_up (va_up (fun _ => none) 0 (some q14)) 1 (some q17)) 2 (some q20)) 3 (some q23)) 4 (some q26)) 5 (some q29)) 6 (some q32)) 7 (some q35)) 8 (some q38)) 9 (some q41)) 10 (some q44)) 11 (some q47)) 12 (some q50)) 13 (some q53)) 14 (some q56)) 15 (some q59)) 16 (some q62)) 17 (some q65)) 18 (some q68))))))), (q71, .inr (0, [.ref q72, .int 0, .int 0])), (q72, .inl (cA73, 20, .inl (fun _ => 0)))] H := hP
  have hD : va_D A [(h0, .inr (2, [.int (-1), .int 0, .ref q1, .ref q4, .int 0, .ref q7, .int 0, .ref q10, .int 0, .ref q12, .null, .int 0, .int 0])), (q12, .inl (cA13, 20, .inr (.inr (.inr (.inr (va_up (va_up (va_up (va_up (va_up (va_up (va_up (va_up (va_up (va_up (va_up (va_up (va_up (va_up (va_up (va_up (va_up (va_up (va_up (fun _ => none) 0 (some q14)) 1 (some q17)) 2 (some q20)) 3 (some q23)) 4 (some q26)) 5 (some q29)) 6 (some q32)) 7 (some q35)) 8 (some q38)) 9 (some q41)) 10 (some q44)) 11 (some q47)) 12 (some q50)) 13 (some q53)) 14 (some q56)) 15 (some q59)) 16 (some q62)) 17 (some q65)) 18 (some q68))))))), (q71, .inr (0, [.ref q72, .int 0, .int 0])), (q72, .inl (cA73, 20, .inl (fun _ => 0)))] := hD
  have hK : va_K (dC, dI) classes [(cA13, .object R_Row), (cA73, .byte)] s := hK
  refine W.widen (k := 48) (n := 633) (by omega) (by omega) ?_
  refine va_astq hx hb hK hP hD hS 1 0 2 0 rfl rfl rfl rfl (vp_in_nI (by decide) (by decide)) d_Book_init_86 (fun H locs hP hD hS => ?_)
  rw [nI_clamp (by decide)] at hP hD
  have hP : va_P (dC, dI) classes [(h0, .inr (2, [.int (-1), .int 0, .ref q1, .ref q4, .int 0, .ref q7, .int 0, .ref q10, .int 0, .ref q12, .null, .int 0, .int 0])), (q12, .inl (cA13, 20, .inr (.inr (.inr (.inr (va_up (va_up (va_up (va_up (va_up (va_up (va_up (va_up (va_up (va_up (va_up (va_up (va_up (va_up (va_up (va_up (va_up (va_up (va_up (va_up (fun _ => none) 0 (some q14)) 1 (some q17)) 2 (some q20)) 3 (some q23)) 4 (some q26)) 5 (some q29)) 6 (some q32)) 7 (some q35)) 8 (some q38)) 9 (some q41)) 10 (some q44)) 11 (some q47)) 12 (some q50)) 13 (some q53)) 14 (some q56)) 15 (some q59)) 16 (some q62)) 17 (some q65)) 18 (some q68)) 19 (some q71))))))), (q71, .inr (0, [.ref q72, .int 0, .int 0])), (q72, .inl (cA73, 20, .inl (fun _ => 0)))] H := hP
  have hD : va_D A [(h0, .inr (2, [.int (-1), .int 0, .ref q1, .ref q4, .int 0, .ref q7, .int 0, .ref q10, .int 0, .ref q12, .null, .int 0, .int 0])), (q12, .inl (cA13, 20, .inr (.inr (.inr (.inr (va_up (va_up (va_up (va_up (va_up (va_up (va_up (va_up (va_up (va_up (va_up (va_up (va_up (va_up (va_up (va_up (va_up (va_up (va_up (va_up (fun _ => none) 0 (some q14)) 1 (some q17)) 2 (some q20)) 3 (some q23)) 4 (some q26)) 5 (some q29)) 6 (some q32)) 7 (some q35)) 8 (some q38)) 9 (some q41)) 10 (some q44)) 11 (some q47)) 12 (some q50)) 13 (some q53)) 14 (some q56)) 15 (some q59)) 16 (some q62)) 17 (some q65)) 18 (some q68)) 19 (some q71))))))), (q71, .inr (0, [.ref q72, .int 0, .int 0])), (q72, .inl (cA73, 20, .inl (fun _ => 0)))] := hD
  have hP := hP.sub (ws' := [(h0, .inr (2, [.int (-1), .int 0, .ref q1, .ref q4, .int 0, .ref q7, .int 0, .ref q10, .int 0, .ref q12, .null, .int 0, .int 0])), (q12, .inl (cA13, 20, .inr (.inr (.inr (.inr (va_up (va_up (va_up (va_up (va_up (va_up (va_up (va_up (va_up (va_up (va_up (va_up (va_up (va_up (va_up (va_up (va_up (va_up (va_up (va_up (fun _ => none) 0 (some q14)) 1 (some q17)) 2 (some q20)) 3 (some q23)) 4 (some q26)) 5 (some q29)) 6 (some q32)) 7 (some q35)) 8 (some q38)) 9 (some q41)) 10 (some q44)) 11 (some q47)) 12 (some q50)) 13 (some q53)) 14 (some q56)) 15 (some q59)) 16 (some q62)) 17 (some q65)) 18 (some q68)) 19 (some q71)))))))]) [0, 1] rfl
  have hD := hD.sub (ws' := [(h0, .inr (2, [.int (-1), .int 0, .ref q1, .ref q4, .int 0, .ref q7, .int 0, .ref q10, .int 0, .ref q12, .null, .int 0, .int 0])), (q12, .inl (cA13, 20, .inr (.inr (.inr (.inr (va_up (va_up (va_up (va_up (va_up (va_up (va_up (va_up (va_up (va_up (va_up (va_up (va_up (va_up (va_up (va_up (va_up (va_up (va_up (va_up (fun _ => none) 0 (some q14)) 1 (some q17)) 2 (some q20)) 3 (some q23)) 4 (some q26)) 5 (some q29)) 6 (some q32)) 7 (some q35)) 8 (some q38)) 9 (some q41)) 10 (some q44)) 11 (some q47)) 12 (some q50)) 13 (some q53)) 14 (some q56)) 15 (some q59)) 16 (some q62)) 17 (some q65)) 18 (some q68)) 19 (some q71)))))))]) [0, 1] (by decide) rfl
  have hK := hK.sub (tys' := [(cA13, .object R_Row)]) [0] rfl
  refine lv_iinc (v := (nI 20)) (lv' := [(1, .int (nI 20)), (0, .ref h0)]) hx hb d_Book_init_87 hl (k := 0) rfl (by decide) (by decide) rfl (fun ls hl => ?_)
  refine lv_goto (tgt := 66) hx hb d_Book_init_90 (by decide) ?_
  refine lv_iload_n hx hb d_Book_init_66 rfl (lv_at hl 0 rfl) ?_
  refine lv_bipush (v := (nI 20)) hx hb d_Book_init_67 (by decide) ?_
  refine lv_icmp_ge (tgt := 93) hx hb d_Book_init_69 (by decide) (fun _ => ?_) (fun c_69 => absurd (by decide) c_69)
  refine lv_aload_n hx hb d_Book_init_93 rfl (lv_at hl 1 rfl) ?_
  refine lv_bipush (v := (nI 20)) hx hb d_Book_init_94 (by decide) ?_
  refine va_newa (atype := .int) (ty := .int) (a0 := (20, .inl (fun _ => 0))) hx hb (ht _ k_62) rfl hK hP hD hS hA (fun _ => rfl) (nI_pos (by decide)) (nI_clamp (by decide)) (by decide) (Nat.le_of_ble_eq_true rfl) (Nat.le_of_ble_eq_true rfl) d_Book_init_96 (fun q74 cA75 H hK hP hD hS => ?_)
  refine W.widen (k := 49) (n := 653) (by omega) (by omega) ?_
  have hP : va_P (dC, dI) classes [(h0, .inr (2, [.int (-1), .int 0, .ref q1, .ref q4, .int 0, .ref q7, .int 0, .ref q10, .int 0, .ref q12, .null, .int 0, .int 0])), (q12, .inl (cA13, 20, .inr (.inr (.inr (.inr (va_up (va_up (va_up (va_up (va_up (va_up (va_up (va_up (va_up (va_up (va_up (va_up (va_up (va_up (va_up (va_up (va_up (va_up (va_up (va_up (fun _ => none) 0 (some q14)) 1 (some q17)) 2 (some q20)) 3 (some q23)) 4 (some q26)) 5 (some q29)) 6 (some q32)) 7 (some q35)) 8 (some q38)) 9 (some q41)) 10 (some q44)) 11 (some q47)) 12 (some q50)) 13 (some q53)) 14 (some q56)) 15 (some q59)) 16 (some q62)) 17 (some q65)) 18 (some q68)) 19 (some q71))))))), (q74, .inl (cA75, 20, .inl (fun _ => 0)))] H := hP
  have hD : va_D A [(h0, .inr (2, [.int (-1), .int 0, .ref q1, .ref q4, .int 0, .ref q7, .int 0, .ref q10, .int 0, .ref q12, .null, .int 0, .int 0])), (q12, .inl (cA13, 20, .inr (.inr (.inr (.inr (va_up (va_up (va_up (va_up (va_up (va_up (va_up (va_up (va_up (va_up (va_up (va_up (va_up (va_up (va_up (va_up (va_up (va_up (va_up (va_up (fun _ => none) 0 (some q14)) 1 (some q17)) 2 (some q20)) 3 (some q23)) 4 (some q26)) 5 (some q29)) 6 (some q32)) 7 (some q35)) 8 (some q38)) 9 (some q41)) 10 (some q44)) 11 (some q47)) 12 (some q50)) 13 (some q53)) 14 (some q56)) 15 (some q59)) 16 (some q62)) 17 (some q65)) 18 (some q68)) 19 (some q71))))))), (q74, .inl (cA75, 20, .inl (fun _ => 0)))] := hD
  have hK : va_K (dC, dI) classes [(cA13, .object R_Row), (cA75, .int)] s := hK
  refine va_putF (D := (dC, dI)) (ci := 2) (v := .ref q74) (ty := .array .int) (C := R_Book) (T := F_Book) (N := 13) hx hb ht i_Book t_Book t_Book_ok n_Book hown hK hP hD hS 0 rfl rfl 10 (by decide) (ht _ k_86) (fun _ h9 => h9) rfl hin rfl (by decide +kernel) rfl rfl (Nat.le_of_ble_eq_true rfl) d_Book_init_98 (fun H locs hP hD hS => ?_)
  have hP : va_P (dC, dI) classes [(h0, .inr (2, [.int (-1), .int 0, .ref q1, .ref q4, .int 0, .ref q7, .int 0, .ref q10, .int 0, .ref q12, .ref q74, .int 0, .int 0])), (q12, .inl (cA13, 20, .inr (.inr (.inr (.inr (va_up (va_up (va_up (va_up (va_up (va_up (va_up (va_up (va_up (va_up (va_up (va_up (va_up (va_up (va_up (va_up (va_up (va_up (va_up (va_up (fun _ => none) 0 (some q14)) 1 (some q17)) 2 (some q20)) 3 (some q23)) 4 (some q26)) 5 (some q29)) 6 (some q32)) 7 (some q35)) 8 (some q38)) 9 (some q41)) 10 (some q44)) 11 (some q47)) 12 (some q50)) 13 (some q53)) 14 (some q56)) 15 (some q59)) 16 (some q62)) 17 (some q65)) 18 (some q68)) 19 (some q71))))))), (q74, .inl (cA75, 20, .inl (fun _ => 0)))] H := hP
  have hD : va_D A [(h0, .inr (2, [.int (-1), .int 0, .ref q1, .ref q4, .int 0, .ref q7, .int 0, .ref q10, .int 0, .ref q12, .ref q74, .int 0, .int 0])), (q12, .inl (cA13, 20, .inr (.inr (.inr (.inr (va_up (va_up (va_up (va_up (va_up (va_up (va_up (va_up (va_up (va_up (va_up (va_up (va_up (va_up (va_up (va_up (va_up (va_up (va_up (va_up (fun _ => none) 0 (some q14)) 1 (some q17)) 2 (some q20)) 3 (some q23)) 4 (some q26)) 5 (some q29)) 6 (some q32)) 7 (some q35)) 8 (some q38)) 9 (some q41)) 10 (some q44)) 11 (some q47)) 12 (some q50)) 13 (some q53)) 14 (some q56)) 15 (some q59)) 16 (some q62)) 17 (some q65)) 18 (some q68)) 19 (some q71))))))), (q74, .inl (cA75, 20, .inl (fun _ => 0)))] := hD
  have hP9 := hP.sub (ws' := [(h0, .inr (2, [.int (-1), .int 0, .ref q1, .ref q4, .int 0, .ref q7, .int 0, .ref q10, .int 0, .ref q12, .ref q74, .int 0, .int 0]))]) [0] rfl
  have hD9 := hD.sub (ws' := [(h0, .inr (2, [.int (-1), .int 0, .ref q1, .ref q4, .int 0, .ref q7, .int 0, .ref q10, .int 0, .ref q12, .ref q74, .int 0, .int 0]))]) [0] (by decide) rfl
  have hK9 := hK.sub (tys' := []) [] rfl
  exact W.vret hx hb hr (fun t ht9 hW => ⟨⟨(), rfl, trivial, q1, q4, q7, q10, q12, q74, by rw [ht9]; exact hP9, va_K.moved hW.alike hK9, hD9⟩, hS.F ht9⟩) hS.2.2 d_Book_init_101
end
section
theorem d_Scribe_init_0 : decode b_Scribe_init 0 = .ok (.aload_n 0, 1) := by decide +kernel
theorem d_Scribe_init_1 : decode b_Scribe_init 1 = .ok (.invokespecial 3, 3) := by decide +kernel
theorem d_Scribe_init_4 : decode b_Scribe_init 4 = .ok (.aload_n 0, 1) := by decide +kernel
theorem d_Scribe_init_5 : decode b_Scribe_init 5 = .ok (.aload_n 1, 1) := by decide +kernel
theorem d_Scribe_init_6 : decode b_Scribe_init 6 = .ok (.putfield 9, 3) := by decide +kernel
theorem d_Scribe_init_9 : decode b_Scribe_init 9 = .ok (.aload_n 0, 1) := by decide +kernel
theorem d_Scribe_init_10 : decode b_Scribe_init 10 = .ok (.aload_n 2, 1) := by decide +kernel
theorem d_Scribe_init_11 : decode b_Scribe_init 11 = .ok (.putfield 15, 3) := by decide +kernel
theorem d_Scribe_init_14 : decode b_Scribe_init 14 = .ok (.aload_n 0, 1) := by decide +kernel
theorem d_Scribe_init_15 : decode b_Scribe_init 15 = .ok (.new 19, 3) := by decide +kernel
theorem d_Scribe_init_18 : decode b_Scribe_init 18 = .ok (.dup, 1) := by decide +kernel
theorem d_Scribe_init_19 : decode b_Scribe_init 19 = .ok (.sipush 16000, 3) := by decide +kernel
theorem d_Scribe_init_22 : decode b_Scribe_init 22 = .ok (.invokespecial 21, 3) := by decide +kernel
theorem d_Scribe_init_25 : decode b_Scribe_init 25 = .ok (.putfield 24, 3) := by decide +kernel
theorem d_Scribe_init_28 : decode b_Scribe_init 28 = .ok (.aload_n 0, 1) := by decide +kernel
theorem d_Scribe_init_29 : decode b_Scribe_init 29 = .ok (.new 19, 3) := by decide +kernel
theorem d_Scribe_init_32 : decode b_Scribe_init 32 = .ok (.dup, 1) := by decide +kernel
theorem d_Scribe_init_33 : decode b_Scribe_init 33 = .ok (.sipush 6000, 3) := by decide +kernel
theorem d_Scribe_init_36 : decode b_Scribe_init 36 = .ok (.invokespecial 21, 3) := by decide +kernel
theorem d_Scribe_init_39 : decode b_Scribe_init 39 = .ok (.putfield 28, 3) := by decide +kernel
theorem d_Scribe_init_42 : decode b_Scribe_init 42 = .ok (.aload_n 0, 1) := by decide +kernel
theorem d_Scribe_init_43 : decode b_Scribe_init 43 = .ok (.iconst (-1), 1) := by decide +kernel
theorem d_Scribe_init_44 : decode b_Scribe_init 44 = .ok (.putfield 31, 3) := by decide +kernel
theorem d_Scribe_init_47 : decode b_Scribe_init 47 = .ok (.return_, 1) := by decide +kernel
theorem d_Listing_init_0 : decode b_Listing_init 0 = .ok (.aload_n 0, 1) := by decide +kernel
theorem d_Listing_init_1 : decode b_Listing_init 1 = .ok (.invokespecial 3, 3) := by decide +kernel
theorem d_Listing_init_4 : decode b_Listing_init 4 = .ok (.aload_n 0, 1) := by decide +kernel
theorem d_Listing_init_5 : decode b_Listing_init 5 = .ok (.aload_n 1, 1) := by decide +kernel
theorem d_Listing_init_6 : decode b_Listing_init 6 = .ok (.putfield 9, 3) := by decide +kernel
theorem d_Listing_init_9 : decode b_Listing_init 9 = .ok (.aload_n 0, 1) := by decide +kernel
theorem d_Listing_init_10 : decode b_Listing_init 10 = .ok (.aload_n 2, 1) := by decide +kernel
theorem d_Listing_init_11 : decode b_Listing_init 11 = .ok (.putfield 15, 3) := by decide +kernel
theorem d_Listing_init_14 : decode b_Listing_init 14 = .ok (.aload_n 0, 1) := by decide +kernel
theorem d_Listing_init_15 : decode b_Listing_init 15 = .ok (.aload_n 3, 1) := by decide +kernel
theorem d_Listing_init_16 : decode b_Listing_init 16 = .ok (.putfield 19, 3) := by decide +kernel
theorem d_Listing_init_19 : decode b_Listing_init 19 = .ok (.aload_n 0, 1) := by decide +kernel
theorem d_Listing_init_20 : decode b_Listing_init 20 = .ok (.new 23, 3) := by decide +kernel
theorem d_Listing_init_23 : decode b_Listing_init 23 = .ok (.dup, 1) := by decide +kernel
theorem d_Listing_init_24 : decode b_Listing_init 24 = .ok (.sipush 8000, 3) := by decide +kernel
theorem d_Listing_init_27 : decode b_Listing_init 27 = .ok (.invokespecial 27, 3) := by decide +kernel
theorem d_Listing_init_30 : decode b_Listing_init 30 = .ok (.putfield 30, 3) := by decide +kernel
theorem d_Listing_init_33 : decode b_Listing_init 33 = .ok (.aload_n 0, 1) := by decide +kernel
theorem d_Listing_init_34 : decode b_Listing_init 34 = .ok (.bipush 20, 2) := by decide +kernel
theorem d_Listing_init_36 : decode b_Listing_init 36 = .ok (.newarray .int, 2) := by decide +kernel
theorem d_Listing_init_38 : decode b_Listing_init 38 = .ok (.putfield 33, 3) := by decide +kernel
theorem d_Listing_init_41 : decode b_Listing_init 41 = .ok (.aload_n 0, 1) := by decide +kernel
theorem d_Listing_init_42 : decode b_Listing_init 42 = .ok (.bipush 20, 2) := by decide +kernel
theorem d_Listing_init_44 : decode b_Listing_init 44 = .ok (.newarray .int, 2) := by decide +kernel
theorem d_Listing_init_46 : decode b_Listing_init 46 = .ok (.putfield 37, 3) := by decide +kernel
theorem d_Listing_init_49 : decode b_Listing_init 49 = .ok (.aload_n 0, 1) := by decide +kernel
theorem d_Listing_init_50 : decode b_Listing_init 50 = .ok (.bipush 40, 2) := by decide +kernel
theorem d_Listing_init_52 : decode b_Listing_init 52 = .ok (.newarray .int, 2) := by decide +kernel
theorem d_Listing_init_54 : decode b_Listing_init 54 = .ok (.putfield 40, 3) := by decide +kernel
theorem d_Listing_init_57 : decode b_Listing_init 57 = .ok (.aload_n 0, 1) := by decide +kernel
theorem d_Listing_init_58 : decode b_Listing_init 58 = .ok (.bipush 40, 2) := by decide +kernel
theorem d_Listing_init_60 : decode b_Listing_init 60 = .ok (.newarray .int, 2) := by decide +kernel
theorem d_Listing_init_62 : decode b_Listing_init 62 = .ok (.putfield 43, 3) := by decide +kernel
theorem d_Listing_init_65 : decode b_Listing_init 65 = .ok (.aload_n 0, 1) := by decide +kernel
theorem d_Listing_init_66 : decode b_Listing_init 66 = .ok (.bipush 40, 2) := by decide +kernel
theorem d_Listing_init_68 : decode b_Listing_init 68 = .ok (.newarray .int, 2) := by decide +kernel
theorem d_Listing_init_70 : decode b_Listing_init 70 = .ok (.putfield 46, 3) := by decide +kernel
theorem d_Listing_init_73 : decode b_Listing_init 73 = .ok (.aload_n 0, 1) := by decide +kernel
theorem d_Listing_init_74 : decode b_Listing_init 74 = .ok (.new 23, 3) := by decide +kernel
theorem d_Listing_init_77 : decode b_Listing_init 77 = .ok (.dup, 1) := by decide +kernel
theorem d_Listing_init_78 : decode b_Listing_init 78 = .ok (.sipush 3000, 3) := by decide +kernel
theorem d_Listing_init_81 : decode b_Listing_init 81 = .ok (.invokespecial 27, 3) := by decide +kernel
theorem d_Listing_init_84 : decode b_Listing_init 84 = .ok (.putfield 51, 3) := by decide +kernel
theorem d_Listing_init_87 : decode b_Listing_init 87 = .ok (.return_, 1) := by decide +kernel
set_option maxHeartbeats 4000000 in
set_option maxRecDepth 100000 in
/-- Scribe(card, xml) -/
theorem c_Scribe_init (l : Launch) (dC : Nat → ClassId) (dI : Nat → Nat → Nat) (h0 sz a1 a2 : Nat) : Met l y_Scribe_init (Cond.code y_Scribe_init b_Scribe_init 3 none :: xw0) ({ frames := 4, cells := 4, slots := 22006, locals := 100 }) (va_Pc [.ref h0, .ref a1, .ref a2] (fun U => U.heap.size = sz ∧ va_P (dC, dI) classes [(h0, .inr (7, [.null, .null, .null, .null, .null, .int 0, .int 0, .int 0, .int 0]))] U.heap ∧ va_K (dC, dI) classes [] U ∧ va_D (fun _ => True) [(h0, .inr (7, [.null, .null, .null, .null, .null, .int 0, .int 0, .int 0, .int 0]))])) (va_Qv (fun _ : Unit => True) (fun (_ : Unit) (t : State) => ∃ (a1 a2 q1 q4 : Nat) , va_P (dC, dI) classes [(h0, .inr (7, [.ref a1, .ref a2, .ref q1, .ref q4, .null, .int (-1), .int 0, .int 0, .int 0]))] t.heap ∧ va_K (dC, dI) classes [] t ∧ va_D (va_A [(h0, .inr (7, [.null, .null, .null, .null, .null, .int 0, .int 0, .int 0, .int 0]))] sz) [(h0, .inr (7, [.ref a1, .ref a2, .ref q1, .ref q4, .null, .int (-1), .int 0, .int 0, .int 0]))]) (va_A [(h0, .inr (7, [.null, .null, .null, .null, .null, .int 0, .int 0, .int 0, .int 0]))] sz)) 4 22006 (va_A [(h0, .inr (7, [.null, .null, .null, .null, .null, .int 0, .int 0, .int 0, .int 0]))] sz) := by
  refine Met.ofW (cc := b_Scribe_init) (maxL := 3) (ret := none) (by decide) rfl ?_
  intro p e s m args below meth c s₁ B hml hv
  obtain ⟨rfl, hsz, hP, hK, hD0⟩ := hv
  have hx := B.exec
  have hb := B.bytes
  have hr := B.returns
  have hts := atoms_spec (ws := Cond.code y_Scribe_init b_Scribe_init 3 none :: xw0) B.pre
  have ht : ∀ w ∈ xw0, w.before _ s = true := fun w h => hts w (List.mem_cons_of_mem _ h)
  have hown : s.vm.findClass R_Scribe = some m.cls := findClass_of_methodNamed B.named
  have hlocks := B.notSynchronized
  have hin : meth.name = "<init>" := (name_of_methodNamed B.named B.method).1
  subst hsz
  have hD := hD0.self (sz := s.heap.size)
  generalize hAe : va_A [(h0, .inr (7, [.null, .null, .null, .null, .null, .int 0, .int 0, .int 0, .int 0]))] s.heap.size = A at hD ⊢
  have hA : ∀ q : Nat, s.heap.size ≤ q → A q := fun q h => by rw [← hAe]; exact Or.inr h
  have hS : va_S A s.heap s.heap [] := va_S.rf
  have hP : va_P (dC, dI) classes [(h0, .inr (7, [.null, .null, .null, .null, .null, .int 0, .int 0, .int 0, .int 0]))] s.heap := hP
  have hl := lv_entry ([.ref h0, .ref a1, .ref a2]) (n := 3) (Nat.le_of_ble_eq_true rfl)
  rw [lg_entry_eq]
  generalize (lg_sl ([.ref h0, .ref a1, .ref a2]) ++ List.replicate (3 - (lg_sl ([.ref h0, .ref a1, .ref a2])).length) Slot.unset).toArray = ls at hl ⊢
  have hl : lv_has ls 3 [(0, .ref h0), (1, .ref a1), (2, .ref a2)] := hl
  refine lv_aload_n hx hb d_Scribe_init_0 rfl (lv_at hl 0 rfl) ?_
  refine W.objInit hx hb hown (ht _ k_222) (ht _ k_16) (ht _ k_17) rfl (by rw [hml]; exact hl.1) rfl d_Scribe_init_1 (Nat.le_of_ble_eq_true rfl) (Nat.le_of_ble_eq_true rfl) ?_
  refine W.eq (g2 := F0 m 4 ls []) rfl ?_
  refine lv_aload_n hx hb d_Scribe_init_4 rfl (lv_at hl 0 rfl) ?_
  refine lv_aload_n hx hb d_Scribe_init_5 rfl (lv_at hl 1 rfl) ?_
  refine va_putF (D := (dC, dI)) (ci := 7) (v := .ref a1) (ty := .object "AddressHouse$Card") (C := R_Scribe) (T := F_Scribe) (N := 9) hx hb ht i_Scribe t_Scribe t_Scribe_ok n_Scribe hown hK hP hD hS 0 rfl rfl 0 (by decide) (ht _ k_225) (fun _ h9 => h9) rfl hin rfl (by decide +kernel) rfl rfl (Nat.le_of_ble_eq_true rfl) d_Scribe_init_6 (fun H locs hP hD hS => ?_)
  have hP : va_P (dC, dI) classes [(h0, .inr (7, [.ref a1, .null, .null, .null, .null, .int 0, .int 0, .int 0, .int 0]))] H := hP
  have hD : va_D A [(h0, .inr (7, [.ref a1, .null, .null, .null, .null, .int 0, .int 0, .int 0, .int 0]))] := hD
  refine lv_aload_n hx hb d_Scribe_init_9 rfl (lv_at hl 0 rfl) ?_
  refine lv_aload_n hx hb d_Scribe_init_10 rfl (lv_at hl 2 rfl) ?_
  refine va_putF (D := (dC, dI)) (ci := 7) (v := .ref a2) (ty := .object "AddressHouse$Xml") (C := R_Scribe) (T := F_Scribe) (N := 9) hx hb ht i_Scribe t_Scribe t_Scribe_ok n_Scribe hown hK hP hD hS 0 rfl rfl 1 (by decide) (ht _ k_226) (fun _ h9 => h9) rfl hin rfl (by decide +kernel) rfl rfl (Nat.le_of_ble_eq_true rfl) d_Scribe_init_11 (fun H locs hP hD hS => ?_)
  have hP : va_P (dC, dI) classes [(h0, .inr (7, [.ref a1, .ref a2, .null, .null, .null, .int 0, .int 0, .int 0, .int 0]))] H := hP
  have hD : va_D A [(h0, .inr (7, [.ref a1, .ref a2, .null, .null, .null, .int 0, .int 0, .int 0, .int 0]))] := hD
  refine lv_aload_n hx hb d_Scribe_init_14 rfl (lv_at hl 0 rfl) ?_
  refine va_new (ci := 0) (fs := [.null, .int 0, .int 0]) (C := R_Row) (T := F_Row) (N := 3) hx hb ht i_Row t_Row t_Row_ok hown (ht _ k_223) (ht _ k_19) (ht _ k_1) hK hP hD hS hA rfl (fun j hj => by rcases (show j = 0 ∨ j = 1 ∨ j = 2 by omega) with rfl | rfl | rfl <;> rfl) (Nat.le_of_ble_eq_true rfl) (Nat.le_of_ble_eq_true rfl) d_Scribe_init_15 (fun q1 H hP hD hS => ?_)
  refine W.widen (k := 1) (n := 3) (by omega) (by omega) ?_
  have hP : va_P (dC, dI) classes [(h0, .inr (7, [.ref a1, .ref a2, .null, .null, .null, .int 0, .int 0, .int 0, .int 0])), (q1, .inr (0, [.null, .int 0, .int 0]))] H := hP
  have hD : va_D A [(h0, .inr (7, [.ref a1, .ref a2, .null, .null, .null, .int 0, .int 0, .int 0, .int 0])), (q1, .inr (0, [.null, .int 0, .int 0]))] := hD
  refine lv_dup hx hb d_Scribe_init_18 rfl ?_
  refine lv_sipush (v := (nI 16000)) hx hb d_Scribe_init_19 (by decide) ?_
  have hPc := hP.sub (ws' := [(q1, .inr (0, [.null, .int 0, .int 0]))]) [1] rfl
  have hDc := hD.sub (ws' := [(q1, .inr (0, [.null, .int 0, .int 0]))]) [1] (by decide) rfl
  have hKc := hK.sub (tys' := []) [] rfl
  have hFc := va_free (wc := [(q1, .inr (0, [.null, .int 0, .int 0]))]) hD hS hA [1] rfl
  refine va_callv (va_runI (As := [.int (nI 16000)]) (rest := [.ref q1, .ref h0]) ⟨hx, hb, hml, hown, ht⟩ (c_Row_init l dC dI q1 H.size 16000 (by decide) (by decide)) (cwI 1 ht (xw_good k_22) rfl rfl rfl (ht _ k_1) (ht _ k_224) (ht _ k_21) rfl (by decide +kernel) ⟨(Nat.le_of_ble_eq_true rfl), (Nat.le_of_ble_eq_true rfl)⟩) ⟨fun a U g mk q => by obtain ⟨q0, q1, qP, qK, qD⟩ := q; exact ⟨q0, q1, qP, va_K.moved (u := U) (U := U.calling g mk a) (Vm.Alike.refl U.vm) qK, qD⟩, fun U hU hW => ⟨rfl, by rw [hU], by rw [hU]; exact hPc, va_K.moved hW.alike hKc, hDc.weaken (fun _ _ _ _ => trivial)⟩⟩ rfl rfl hl.1 rfl (lv_room (Nat.le_of_ble_eq_true rfl)) d_Scribe_init_22 ⟨(Nat.le_of_ble_eq_true rfl), (Nat.le_of_ble_eq_true rfl)⟩) hS (fun q _ h => hFc q h) hFc (fun u t H1 locs ht9 hvm hw hB hz1 hk1 hS => ?_)
  obtain ⟨q2, cA3, hP1, hK1, hD1⟩ := hB
  rw [ht9] at hP1
  have hK1 := va_K.moved hvm.symm hK1
  obtain ⟨hP, hD⟩ := va_join (wr := [(h0, .inr (7, [.ref a1, .ref a2, .null, .null, .null, .int 0, .int 0, .int 0, .int 0]))]) (w1 := [(q1, .inr (0, [.ref q2, .int 0, .int 0])), (q2, .inl (cA3, 16000, .inl (fun _ => 0)))]) hP hD [1] [0] rfl rfl (by decide) (by decide) hk1 hFc hP1 hD1
  have hK := (hK.sub (tys' := []) [] rfl).app hK1
  generalize H1 = H at hP hS ⊢
  have hP : va_P (dC, dI) classes [(h0, .inr (7, [.ref a1, .ref a2, .null, .null, .null, .int 0, .int 0, .int 0, .int 0])), (q1, .inr (0, [.ref q2, .int 0, .int 0])), (q2, .inl (cA3, 16000, .inl (fun _ => 0)))] H := hP
  have hD : va_D A [(h0, .inr (7, [.ref a1, .ref a2, .null, .null, .null, .int 0, .int 0, .int 0, .int 0])), (q1, .inr (0, [.ref q2, .int 0, .int 0])), (q2, .inl (cA3, 16000, .inl (fun _ => 0)))] := hD
  have hK : va_K (dC, dI) classes [(cA3, .byte)] s := hK
  refine W.widen (k := 2) (n := 16003) (by omega) (by omega) ?_
  refine va_putF (D := (dC, dI)) (ci := 7) (v := .ref q1) (ty := .object "AddressHouse$Row") (C := R_Scribe) (T := F_Scribe) (N := 9) hx hb ht i_Scribe t_Scribe t_Scribe_ok n_Scribe hown hK hP hD hS 0 rfl rfl 2 (by decide) (ht _ k_227) (fun _ h9 => h9) rfl hin rfl (by decide +kernel) rfl rfl (Nat.le_of_ble_eq_true rfl) d_Scribe_init_25 (fun H locs hP hD hS => ?_)
  have hP : va_P (dC, dI) classes [(h0, .inr (7, [.ref a1, .ref a2, .ref q1, .null, .null, .int 0, .int 0, .int 0, .int 0])), (q1, .inr (0, [.ref q2, .int 0, .int 0])), (q2, .inl (cA3, 16000, .inl (fun _ => 0)))] H := hP
  have hD : va_D A [(h0, .inr (7, [.ref a1, .ref a2, .ref q1, .null, .null, .int 0, .int 0, .int 0, .int 0])), (q1, .inr (0, [.ref q2, .int 0, .int 0])), (q2, .inl (cA3, 16000, .inl (fun _ => 0)))] := hD
  refine lv_aload_n hx hb d_Scribe_init_28 rfl (lv_at hl 0 rfl) ?_
  refine va_new (ci := 0) (fs := [.null, .int 0, .int 0]) (C := R_Row) (T := F_Row) (N := 3) hx hb ht i_Row t_Row t_Row_ok hown (ht _ k_223) (ht _ k_19) (ht _ k_1) hK hP hD hS hA rfl (fun j hj => by rcases (show j = 0 ∨ j = 1 ∨ j = 2 by omega) with rfl | rfl | rfl <;> rfl) (Nat.le_of_ble_eq_true rfl) (Nat.le_of_ble_eq_true rfl) d_Scribe_init_29 (fun q4 H hP hD hS => ?_)
  refine W.widen (k := 3) (n := 16006) (by omega) (by omega) ?_
  have hP : va_P (dC, dI) classes [(h0, .inr (7, [.ref a1, .ref a2, .ref q1, .null, .null, .int 0, .int 0, .int 0, .int 0])), (q1, .inr (0, [.ref q2, .int 0, .int 0])), (q2, .inl (cA3, 16000, .inl (fun _ => 0))), (q4, .inr (0, [.null, .int 0, .int 0]))] H := hP
  have hD : va_D A [(h0, .inr (7, [.ref a1, .ref a2, .ref q1, .null, .null, .int 0, .int 0, .int 0, .int 0])), (q1, .inr (0, [.ref q2, .int 0, .int 0])), (q2, .inl (cA3, 16000, .inl (fun _ => 0))), (q4, .inr (0, [.null, .int 0, .int 0]))] := hD
  refine lv_dup hx hb d_Scribe_init_32 rfl ?_
  refine lv_sipush (v := (nI 6000)) hx hb d_Scribe_init_33 (by decide) ?_
  have hPc := hP.sub (ws' := [(q4, .inr (0, [.null, .int 0, .int 0]))]) [3] rfl
  have hDc := hD.sub (ws' := [(q4, .inr (0, [.null, .int 0, .int 0]))]) [3] (by decide) rfl
  have hKc := hK.sub (tys' := []) [] rfl
  have hFc := va_free (wc := [(q4, .inr (0, [.null, .int 0, .int 0]))]) hD hS hA [3] rfl
  refine va_callv (va_runI (As := [.int (nI 6000)]) (rest := [.ref q4, .ref h0]) ⟨hx, hb, hml, hown, ht⟩ (c_Row_init l dC dI q4 H.size 6000 (by decide) (by decide)) (cwI 1 ht (xw_good k_22) rfl rfl rfl (ht _ k_1) (ht _ k_224) (ht _ k_21) rfl (by decide +kernel) ⟨(Nat.le_of_ble_eq_true rfl), (Nat.le_of_ble_eq_true rfl)⟩) ⟨fun a U g mk q => by obtain ⟨q0, q1, qP, qK, qD⟩ := q; exact ⟨q0, q1, qP, va_K.moved (u := U) (U := U.calling g mk a) (Vm.Alike.refl U.vm) qK, qD⟩, fun U hU hW => ⟨rfl, by rw [hU], by rw [hU]; exact hPc, va_K.moved hW.alike hKc, hDc.weaken (fun _ _ _ _ => trivial)⟩⟩ rfl rfl hl.1 rfl (lv_room (Nat.le_of_ble_eq_true rfl)) d_Scribe_init_36 ⟨(Nat.le_of_ble_eq_true rfl), (Nat.le_of_ble_eq_true rfl)⟩) hS (fun q _ h => hFc q h) hFc (fun u t H1 locs ht9 hvm hw hB hz1 hk1 hS => ?_)
  obtain ⟨q5, cA6, hP1, hK1, hD1⟩ := hB
  rw [ht9] at hP1
  have hK1 := va_K.moved hvm.symm hK1
  obtain ⟨hP, hD⟩ := va_join (wr := [(h0, .inr (7, [.ref a1, .ref a2, .ref q1, .null, .null, .int 0, .int 0, .int 0, .int 0])), (q1, .inr (0, [.ref q2, .int 0, .int 0])), (q2, .inl (cA3, 16000, .inl (fun _ => 0)))]) (w1 := [(q4, .inr (0, [.ref q5, .int 0, .int 0])), (q5, .inl (cA6, 6000, .inl (fun _ => 0)))]) hP hD [3] [0, 1, 2] rfl rfl (by decide) (by decide) hk1 hFc hP1 hD1
  have hK := (hK.sub (tys' := [(cA3, .byte)]) [0] rfl).app hK1
  generalize H1 = H at hP hS ⊢
  have hP : va_P (dC, dI) classes [(h0, .inr (7, [.ref a1, .ref a2, .ref q1, .null, .null, .int 0, .int 0, .int 0, .int 0])), (q1, .inr (0, [.ref q2, .int 0, .int 0])), (q2, .inl (cA3, 16000, .inl (fun _ => 0))), (q4, .inr (0, [.ref q5, .int 0, .int 0])), (q5, .inl (cA6, 6000, .inl (fun _ => 0)))] H := hP
  have hD : va_D A [(h0, .inr (7, [.ref a1, .ref a2, .ref q1, .null, .null, .int 0, .int 0, .int 0, .int 0])), (q1, .inr (0, [.ref q2, .int 0, .int 0])), (q2, .inl (cA3, 16000, .inl (fun _ => 0))), (q4, .inr (0, [.ref q5, .int 0, .int 0])), (q5, .inl (cA6, 6000, .inl (fun _ => 0)))] := hD
  have hK : va_K (dC, dI) classes [(cA3, .byte), (cA6, .byte)] s := hK
  refine W.widen (k := 4) (n := 22006) (by omega) (by omega) ?_
  refine va_putF (D := (dC, dI)) (ci := 7) (v := .ref q4) (ty := .object "AddressHouse$Row") (C := R_Scribe) (T := F_Scribe) (N := 9) hx hb ht i_Scribe t_Scribe t_Scribe_ok n_Scribe hown hK hP hD hS 0 rfl rfl 3 (by decide) (ht _ k_228) (fun _ h9 => h9) rfl hin rfl (by decide +kernel) rfl rfl (Nat.le_of_ble_eq_true rfl) d_Scribe_init_39 (fun H locs hP hD hS => ?_)
  have hP : va_P (dC, dI) classes [(h0, .inr (7, [.ref a1, .ref a2, .ref q1, .ref q4, .null, .int 0, .int 0, .int 0, .int 0])), (q1, .inr (0, [.ref q2, .int 0, .int 0])), (q2, .inl (cA3, 16000, .inl (fun _ => 0))), (q4, .inr (0, [.ref q5, .int 0, .int 0])), (q5, .inl (cA6, 6000, .inl (fun _ => 0)))] H := hP
  have hD : va_D A [(h0, .inr (7, [.ref a1, .ref a2, .ref q1, .ref q4, .null, .int 0, .int 0, .int 0, .int 0])), (q1, .inr (0, [.ref q2, .int 0, .int 0])), (q2, .inl (cA3, 16000, .inl (fun _ => 0))), (q4, .inr (0, [.ref q5, .int 0, .int 0])), (q5, .inl (cA6, 6000, .inl (fun _ => 0)))] := hD
  refine lv_aload_n hx hb d_Scribe_init_42 rfl (lv_at hl 0 rfl) ?_
  refine lv_iconst (v := (-1)) hx hb d_Scribe_init_43 (by decide) ?_
  refine va_put (D := (dC, dI)) (ci := 7) (v := .int (-1)) (ty := .int) (C := R_Scribe) (T := F_Scribe) (N := 9) hx hb ht i_Scribe t_Scribe t_Scribe_ok n_Scribe hown hK hP hD hS 0 rfl rfl 5 (by decide) (ht _ k_229) (fun _ h9 => h9) rfl (by decide +kernel) rfl rfl (Nat.le_of_ble_eq_true rfl) d_Scribe_init_44 (fun H locs hP hD hS => ?_)
  have hP : va_P (dC, dI) classes [(h0, .inr (7, [.ref a1, .ref a2, .ref q1, .ref q4, .null, .int (-1), .int 0, .int 0, .int 0])), (q1, .inr (0, [.ref q2, .int 0, .int 0])), (q2, .inl (cA3, 16000, .inl (fun _ => 0))), (q4, .inr (0, [.ref q5, .int 0, .int 0])), (q5, .inl (cA6, 6000, .inl (fun _ => 0)))] H := hP
  have hD : va_D A [(h0, .inr (7, [.ref a1, .ref a2, .ref q1, .ref q4, .null, .int (-1), .int 0, .int 0, .int 0])), (q1, .inr (0, [.ref q2, .int 0, .int 0])), (q2, .inl (cA3, 16000, .inl (fun _ => 0))), (q4, .inr (0, [.ref q5, .int 0, .int 0])), (q5, .inl (cA6, 6000, .inl (fun _ => 0)))] := hD
  have hP9 := hP.sub (ws' := [(h0, .inr (7, [.ref a1, .ref a2, .ref q1, .ref q4, .null, .int (-1), .int 0, .int 0, .int 0]))]) [0] rfl
  have hD9 := hD.sub (ws' := [(h0, .inr (7, [.ref a1, .ref a2, .ref q1, .ref q4, .null, .int (-1), .int 0, .int 0, .int 0]))]) [0] (by decide) rfl
  have hK9 := hK.sub (tys' := []) [] rfl
  exact W.vret hx hb hr (fun t ht9 hW => ⟨⟨(), rfl, trivial, a1, a2, q1, q4, by rw [ht9]; exact hP9, va_K.moved hW.alike hK9, hD9⟩, hS.F ht9⟩) hS.2.2 d_Scribe_init_47
set_option maxHeartbeats 4000000 in
set_option maxRecDepth 100000 in
/-- Listing(house, xml, body) -/
theorem c_Listing_init (l : Launch) (dC : Nat → ClassId) (dI : Nat → Nat → Nat) (h0 sz a1 a2 a3 : Nat) : Met l y_Listing_init (Cond.code y_Listing_init b_Listing_init 4 none :: xw0) ({ frames := 4, cells := 9, slots := 11166, locals := 100 }) (va_Pc [.ref h0, .ref a1, .ref a2, .ref a3] (fun U => U.heap.size = sz ∧ va_P (dC, dI) classes [(h0, .inr (9, [.null, .null, .int 0, .int 0, .int 0, .null, .null, .int 0, .int 0, .null, .null, .null, .int 0, .null, .null, .null]))] U.heap ∧ va_K (dC, dI) classes [] U ∧ va_D (fun _ => True) [(h0, .inr (9, [.null, .null, .int 0, .int 0, .int 0, .null, .null, .int 0, .int 0, .null, .null, .null, .int 0, .null, .null, .null]))])) (va_Qv (fun _ : Unit => True) (fun (_ : Unit) (t : State) => ∃ (a3 q1 q4 q6 q8 q10 q12 a1 a2 q14 : Nat) , va_P (dC, dI) classes [(h0, .inr (9, [.ref a3, .ref q1, .int 0, .int 0, .int 0, .ref q4, .ref q6, .int 0, .int 0, .ref q8, .ref q10, .ref q12, .int 0, .ref a1, .ref a2, .ref q14]))] t.heap ∧ va_K (dC, dI) classes [] t ∧ va_D (va_A [(h0, .inr (9, [.null, .null, .int 0, .int 0, .int 0, .null, .null, .int 0, .int 0, .null, .null, .null, .int 0, .null, .null, .null]))] sz) [(h0, .inr (9, [.ref a3, .ref q1, .int 0, .int 0, .int 0, .ref q4, .ref q6, .int 0, .int 0, .ref q8, .ref q10, .ref q12, .int 0, .ref a1, .ref a2, .ref q14]))]) (va_A [(h0, .inr (9, [.null, .null, .int 0, .int 0, .int 0, .null, .null, .int 0, .int 0, .null, .null, .null, .int 0, .null, .null, .null]))] sz)) 9 11166 (va_A [(h0, .inr (9, [.null, .null, .int 0, .int 0, .int 0, .null, .null, .int 0, .int 0, .null, .null, .null, .int 0, .null, .null, .null]))] sz) := by
  refine Met.ofW (cc := b_Listing_init) (maxL := 4) (ret := none) (by decide) rfl ?_
  intro p e s m args below meth c s₁ B hml hv
  obtain ⟨rfl, hsz, hP, hK, hD0⟩ := hv
  have hx := B.exec
  have hb := B.bytes
  have hr := B.returns
  have hts := atoms_spec (ws := Cond.code y_Listing_init b_Listing_init 4 none :: xw0) B.pre
  have ht : ∀ w ∈ xw0, w.before _ s = true := fun w h => hts w (List.mem_cons_of_mem _ h)
  have hown : s.vm.findClass R_Listing = some m.cls := findClass_of_methodNamed B.named
  have hlocks := B.notSynchronized
  have hin : meth.name = "<init>" := (name_of_methodNamed B.named B.method).1
  subst hsz
  have hD := hD0.self (sz := s.heap.size)
  generalize hAe : va_A [(h0, .inr (9, [.null, .null, .int 0, .int 0, .int 0, .null, .null, .int 0, .int 0, .null, .null, .null, .int 0, .null, .null, .null]))] s.heap.size = A at hD ⊢
  have hA : ∀ q : Nat, s.heap.size ≤ q → A q := fun q h => by rw [← hAe]; exact Or.inr h
  have hS : va_S A s.heap s.heap [] := va_S.rf
  have hP : va_P (dC, dI) classes [(h0, .inr (9, [.null, .null, .int 0, .int 0, .int 0, .null, .null, .int 0, .int 0, .null, .null, .null, .int 0, .null, .null, .null]))] s.heap := hP
  have hl := lv_entry ([.ref h0, .ref a1, .ref a2, .ref a3]) (n := 4) (Nat.le_of_ble_eq_true rfl)
  rw [lg_entry_eq]
  generalize (lg_sl ([.ref h0, .ref a1, .ref a2, .ref a3]) ++ List.replicate (4 - (lg_sl ([.ref h0, .ref a1, .ref a2, .ref a3])).length) Slot.unset).toArray = ls at hl ⊢
  have hl : lv_has ls 4 [(0, .ref h0), (1, .ref a1), (2, .ref a2), (3, .ref a3)] := hl
  refine lv_aload_n hx hb d_Listing_init_0 rfl (lv_at hl 0 rfl) ?_
  refine W.objInit hx hb hown (ht _ k_246) (ht _ k_16) (ht _ k_17) rfl (by rw [hml]; exact hl.1) rfl d_Listing_init_1 (Nat.le_of_ble_eq_true rfl) (Nat.le_of_ble_eq_true rfl) ?_
  refine W.eq (g2 := F0 m 4 ls []) rfl ?_
  refine lv_aload_n hx hb d_Listing_init_4 rfl (lv_at hl 0 rfl) ?_
  refine lv_aload_n hx hb d_Listing_init_5 rfl (lv_at hl 1 rfl) ?_
  refine va_putF (D := (dC, dI)) (ci := 9) (v := .ref a1) (ty := .object "AddressHouse$House") (C := R_Listing) (T := F_Listing) (N := 16) hx hb ht i_Listing t_Listing t_Listing_ok n_Listing hown hK hP hD hS 0 rfl rfl 13 (by decide) (ht _ k_256) (fun _ h9 => h9) rfl hin rfl (by decide +kernel) rfl rfl (Nat.le_of_ble_eq_true rfl) d_Listing_init_6 (fun H locs hP hD hS => ?_)
  have hP : va_P (dC, dI) classes [(h0, .inr (9, [.null, .null, .int 0, .int 0, .int 0, .null, .null, .int 0, .int 0, .null, .null, .null, .int 0, .ref a1, .null, .null]))] H := hP
  have hD : va_D A [(h0, .inr (9, [.null, .null, .int 0, .int 0, .int 0, .null, .null, .int 0, .int 0, .null, .null, .null, .int 0, .ref a1, .null, .null]))] := hD
  refine lv_aload_n hx hb d_Listing_init_9 rfl (lv_at hl 0 rfl) ?_
  refine lv_aload_n hx hb d_Listing_init_10 rfl (lv_at hl 2 rfl) ?_
  refine va_putF (D := (dC, dI)) (ci := 9) (v := .ref a2) (ty := .object "AddressHouse$Xml") (C := R_Listing) (T := F_Listing) (N := 16) hx hb ht i_Listing t_Listing t_Listing_ok n_Listing hown hK hP hD hS 0 rfl rfl 14 (by decide) (ht _ k_257) (fun _ h9 => h9) rfl hin rfl (by decide +kernel) rfl rfl (Nat.le_of_ble_eq_true rfl) d_Listing_init_11 (fun H locs hP hD hS => ?_)
  have hP : va_P (dC, dI) classes [(h0, .inr (9, [.null, .null, .int 0, .int 0, .int 0, .null, .null, .int 0, .int 0, .null, .null, .null, .int 0, .ref a1, .ref a2, .null]))] H := hP
  have hD : va_D A [(h0, .inr (9, [.null, .null, .int 0, .int 0, .int 0, .null, .null, .int 0, .int 0, .null, .null, .null, .int 0, .ref a1, .ref a2, .null]))] := hD
  refine lv_aload_n hx hb d_Listing_init_14 rfl (lv_at hl 0 rfl) ?_
  refine lv_aload_n hx hb d_Listing_init_15 rfl (lv_at hl 3 rfl) ?_
  refine va_putF (D := (dC, dI)) (ci := 9) (v := .ref a3) (ty := .object "AddressHouse$Row") (C := R_Listing) (T := F_Listing) (N := 16) hx hb ht i_Listing t_Listing t_Listing_ok n_Listing hown hK hP hD hS 0 rfl rfl 0 (by decide) (ht _ k_249) (fun _ h9 => h9) rfl hin rfl (by decide +kernel) rfl rfl (Nat.le_of_ble_eq_true rfl) d_Listing_init_16 (fun H locs hP hD hS => ?_)
  have hP : va_P (dC, dI) classes [(h0, .inr (9, [.ref a3, .null, .int 0, .int 0, .int 0, .null, .null, .int 0, .int 0, .null, .null, .null, .int 0, .ref a1, .ref a2, .null]))] H := hP
  have hD : va_D A [(h0, .inr (9, [.ref a3, .null, .int 0, .int 0, .int 0, .null, .null, .int 0, .int 0, .null, .null, .null, .int 0, .ref a1, .ref a2, .null]))] := hD
  refine lv_aload_n hx hb d_Listing_init_19 rfl (lv_at hl 0 rfl) ?_
  refine va_new (ci := 0) (fs := [.null, .int 0, .int 0]) (C := R_Row) (T := F_Row) (N := 3) hx hb ht i_Row t_Row t_Row_ok hown (ht _ k_247) (ht _ k_19) (ht _ k_1) hK hP hD hS hA rfl (fun j hj => by rcases (show j = 0 ∨ j = 1 ∨ j = 2 by omega) with rfl | rfl | rfl <;> rfl) (Nat.le_of_ble_eq_true rfl) (Nat.le_of_ble_eq_true rfl) d_Listing_init_20 (fun q1 H hP hD hS => ?_)
  refine W.widen (k := 1) (n := 3) (by omega) (by omega) ?_
  have hP : va_P (dC, dI) classes [(h0, .inr (9, [.ref a3, .null, .int 0, .int 0, .int 0, .null, .null, .int 0, .int 0, .null, .null, .null, .int 0, .ref a1, .ref a2, .null])), (q1, .inr (0, [.null, .int 0, .int 0]))] H := hP
  have hD : va_D A [(h0, .inr (9, [.ref a3, .null, .int 0, .int 0, .int 0, .null, .null, .int 0, .int 0, .null, .null, .null, .int 0, .ref a1, .ref a2, .null])), (q1, .inr (0, [.null, .int 0, .int 0]))] := hD
  refine lv_dup hx hb d_Listing_init_23 rfl ?_
  refine lv_sipush (v := (nI 8000)) hx hb d_Listing_init_24 (by decide) ?_
  have hPc := hP.sub (ws' := [(q1, .inr (0, [.null, .int 0, .int 0]))]) [1] rfl
  have hDc := hD.sub (ws' := [(q1, .inr (0, [.null, .int 0, .int 0]))]) [1] (by decide) rfl
  have hKc := hK.sub (tys' := []) [] rfl
  have hFc := va_free (wc := [(q1, .inr (0, [.null, .int 0, .int 0]))]) hD hS hA [1] rfl
  refine va_callv (va_runI (As := [.int (nI 8000)]) (rest := [.ref q1, .ref h0]) ⟨hx, hb, hml, hown, ht⟩ (c_Row_init l dC dI q1 H.size 8000 (by decide) (by decide)) (cwI 1 ht (xw_good k_22) rfl rfl rfl (ht _ k_1) (ht _ k_248) (ht _ k_21) rfl (by decide +kernel) ⟨(Nat.le_of_ble_eq_true rfl), (Nat.le_of_ble_eq_true rfl)⟩) ⟨fun a U g mk q => by obtain ⟨q0, q1, qP, qK, qD⟩ := q; exact ⟨q0, q1, qP, va_K.moved (u := U) (U := U.calling g mk a) (Vm.Alike.refl U.vm) qK, qD⟩, fun U hU hW => ⟨rfl, by rw [hU], by rw [hU]; exact hPc, va_K.moved hW.alike hKc, hDc.weaken (fun _ _ _ _ => trivial)⟩⟩ rfl rfl hl.1 rfl (lv_room (Nat.le_of_ble_eq_true rfl)) d_Listing_init_27 ⟨(Nat.le_of_ble_eq_true rfl), (Nat.le_of_ble_eq_true rfl)⟩) hS (fun q _ h => hFc q h) hFc (fun u t H1 locs ht9 hvm hw hB hz1 hk1 hS => ?_)
  obtain ⟨q2, cA3, hP1, hK1, hD1⟩ := hB
  rw [ht9] at hP1
  have hK1 := va_K.moved hvm.symm hK1
  obtain ⟨hP, hD⟩ := va_join (wr := [(h0, .inr (9, [.ref a3, .null, .int 0, .int 0, .int 0, .null, .null, .int 0, .int 0, .null, .null, .null, .int 0, .ref a1, .ref a2, .null]))]) (w1 := [(q1, .inr (0, [.ref q2, .int 0, .int 0])), (q2, .inl (cA3, 8000, .inl (fun _ => 0)))]) hP hD [1] [0] rfl rfl (by decide) (by decide) hk1 hFc hP1 hD1
  have hK := (hK.sub (tys' := []) [] rfl).app hK1
  generalize H1 = H at hP hS ⊢
  have hP : va_P (dC, dI) classes [(h0, .inr (9, [.ref a3, .null, .int 0, .int 0, .int 0, .null, .null, .int 0, .int 0, .null, .null, .null, .int 0, .ref a1, .ref a2, .null])), (q1, .inr (0, [.ref q2, .int 0, .int 0])), (q2, .inl (cA3, 8000, .inl (fun _ => 0)))] H := hP
  have hD : va_D A [(h0, .inr (9, [.ref a3, .null, .int 0, .int 0, .int 0, .null, .null, .int 0, .int 0, .null, .null, .null, .int 0, .ref a1, .ref a2, .null])), (q1, .inr (0, [.ref q2, .int 0, .int 0])), (q2, .inl (cA3, 8000, .inl (fun _ => 0)))] := hD
  have hK : va_K (dC, dI) classes [(cA3, .byte)] s := hK
  refine W.widen (k := 2) (n := 8003) (by omega) (by omega) ?_
  refine va_putF (D := (dC, dI)) (ci := 9) (v := .ref q1) (ty := .object "AddressHouse$Row") (C := R_Listing) (T := F_Listing) (N := 16) hx hb ht i_Listing t_Listing t_Listing_ok n_Listing hown hK hP hD hS 0 rfl rfl 1 (by decide) (ht _ k_250) (fun _ h9 => h9) rfl hin rfl (by decide +kernel) rfl rfl (Nat.le_of_ble_eq_true rfl) d_Listing_init_30 (fun H locs hP hD hS => ?_)
  have hP : va_P (dC, dI) classes [(h0, .inr (9, [.ref a3, .ref q1, .int 0, .int 0, .int 0, .null, .null, .int 0, .int 0, .null, .null, .null, .int 0, .ref a1, .ref a2, .null])), (q1, .inr (0, [.ref q2, .int 0, .int 0])), (q2, .inl (cA3, 8000, .inl (fun _ => 0)))] H := hP
  have hD : va_D A [(h0, .inr (9, [.ref a3, .ref q1, .int 0, .int 0, .int 0, .null, .null, .int 0, .int 0, .null, .null, .null, .int 0, .ref a1, .ref a2, .null])), (q1, .inr (0, [.ref q2, .int 0, .int 0])), (q2, .inl (cA3, 8000, .inl (fun _ => 0)))] := hD
  refine lv_aload_n hx hb d_Listing_init_33 rfl (lv_at hl 0 rfl) ?_
  refine lv_bipush (v := (nI 20)) hx hb d_Listing_init_34 (by decide) ?_
  refine va_newa (atype := .int) (ty := .int) (a0 := (20, .inl (fun _ => 0))) hx hb (ht _ k_62) rfl hK hP hD hS hA (fun _ => rfl) (nI_pos (by decide)) (nI_clamp (by decide)) (by decide) (Nat.le_of_ble_eq_true rfl) (Nat.le_of_ble_eq_true rfl) d_Listing_init_36 (fun q4 cA5 H hK hP hD hS => ?_)
  refine W.widen (k := 3) (n := 8023) (by omega) (by omega) ?_
  have hP : va_P (dC, dI) classes [(h0, .inr (9, [.ref a3, .ref q1, .int 0, .int 0, .int 0, .null, .null, .int 0, .int 0, .null, .null, .null, .int 0, .ref a1, .ref a2, .null])), (q1, .inr (0, [.ref q2, .int 0, .int 0])), (q2, .inl (cA3, 8000, .inl (fun _ => 0))), (q4, .inl (cA5, 20, .inl (fun _ => 0)))] H := hP
  have hD : va_D A [(h0, .inr (9, [.ref a3, .ref q1, .int 0, .int 0, .int 0, .null, .null, .int 0, .int 0, .null, .null, .null, .int 0, .ref a1, .ref a2, .null])), (q1, .inr (0, [.ref q2, .int 0, .int 0])), (q2, .inl (cA3, 8000, .inl (fun _ => 0))), (q4, .inl (cA5, 20, .inl (fun _ => 0)))] := hD
  have hK : va_K (dC, dI) classes [(cA3, .byte), (cA5, .int)] s := hK
  refine va_putF (D := (dC, dI)) (ci := 9) (v := .ref q4) (ty := .array .int) (C := R_Listing) (T := F_Listing) (N := 16) hx hb ht i_Listing t_Listing t_Listing_ok n_Listing hown hK hP hD hS 0 rfl rfl 5 (by decide) (ht _ k_251) (fun _ h9 => h9) rfl hin rfl (by decide +kernel) rfl rfl (Nat.le_of_ble_eq_true rfl) d_Listing_init_38 (fun H locs hP hD hS => ?_)
  have hP : va_P (dC, dI) classes [(h0, .inr (9, [.ref a3, .ref q1, .int 0, .int 0, .int 0, .ref q4, .null, .int 0, .int 0, .null, .null, .null, .int 0, .ref a1, .ref a2, .null])), (q1, .inr (0, [.ref q2, .int 0, .int 0])), (q2, .inl (cA3, 8000, .inl (fun _ => 0))), (q4, .inl (cA5, 20, .inl (fun _ => 0)))] H := hP
  have hD : va_D A [(h0, .inr (9, [.ref a3, .ref q1, .int 0, .int 0, .int 0, .ref q4, .null, .int 0, .int 0, .null, .null, .null, .int 0, .ref a1, .ref a2, .null])), (q1, .inr (0, [.ref q2, .int 0, .int 0])), (q2, .inl (cA3, 8000, .inl (fun _ => 0))), (q4, .inl (cA5, 20, .inl (fun _ => 0)))] := hD
  refine lv_aload_n hx hb d_Listing_init_41 rfl (lv_at hl 0 rfl) ?_
  refine lv_bipush (v := (nI 20)) hx hb d_Listing_init_42 (by decide) ?_
  refine va_newa (atype := .int) (ty := .int) (a0 := (20, .inl (fun _ => 0))) hx hb (ht _ k_62) rfl hK hP hD hS hA (fun _ => rfl) (nI_pos (by decide)) (nI_clamp (by decide)) (by decide) (Nat.le_of_ble_eq_true rfl) (Nat.le_of_ble_eq_true rfl) d_Listing_init_44 (fun q6 cA7 H hK hP hD hS => ?_)
  refine W.widen (k := 4) (n := 8043) (by omega) (by omega) ?_
  have hP : va_P (dC, dI) classes [(h0, .inr (9, [.ref a3, .ref q1, .int 0, .int 0, .int 0, .ref q4, .null, .int 0, .int 0, .null, .null, .null, .int 0, .ref a1, .ref a2, .null])), (q1, .inr (0, [.ref q2, .int 0, .int 0])), (q2, .inl (cA3, 8000, .inl (fun _ => 0))), (q4, .inl (cA5, 20, .inl (fun _ => 0))), (q6, .inl (cA7, 20, .inl (fun _ => 0)))] H := hP
  have hD : va_D A [(h0, .inr (9, [.ref a3, .ref q1, .int 0, .int 0, .int 0, .ref q4, .null, .int 0, .int 0, .null, .null, .null, .int 0, .ref a1, .ref a2, .null])), (q1, .inr (0, [.ref q2, .int 0, .int 0])), (q2, .inl (cA3, 8000, .inl (fun _ => 0))), (q4, .inl (cA5, 20, .inl (fun _ => 0))), (q6, .inl (cA7, 20, .inl (fun _ => 0)))] := hD
  have hK : va_K (dC, dI) classes [(cA3, .byte), (cA5, .int), (cA7, .int)] s := hK
  refine va_putF (D := (dC, dI)) (ci := 9) (v := .ref q6) (ty := .array .int) (C := R_Listing) (T := F_Listing) (N := 16) hx hb ht i_Listing t_Listing t_Listing_ok n_Listing hown hK hP hD hS 0 rfl rfl 6 (by decide) (ht _ k_252) (fun _ h9 => h9) rfl hin rfl (by decide +kernel) rfl rfl (Nat.le_of_ble_eq_true rfl) d_Listing_init_46 (fun H locs hP hD hS => ?_)
  have hP : va_P (dC, dI) classes [(h0, .inr (9, [.ref a3, .ref q1, .int 0, .int 0, .int 0, .ref q4, .ref q6, .int 0, .int 0, .null, .null, .null, .int 0, .ref a1, .ref a2, .null])), (q1, .inr (0, [.ref q2, .int 0, .int 0])), (q2, .inl (cA3, 8000, .inl (fun _ => 0))), (q4, .inl (cA5, 20, .inl (fun _ => 0))), (q6, .inl (cA7, 20, .inl (fun _ => 0)))] H := hP
  have hD : va_D A [(h0, .inr (9, [.ref a3, .ref q1, .int 0, .int 0, .int 0, .ref q4, .ref q6, .int 0, .int 0, .null, .null, .null, .int 0, .ref a1, .ref a2, .null])), (q1, .inr (0, [.ref q2, .int 0, .int 0])), (q2, .inl (cA3, 8000, .inl (fun _ => 0))), (q4, .inl (cA5, 20, .inl (fun _ => 0))), (q6, .inl (cA7, 20, .inl (fun _ => 0)))] := hD
  refine lv_aload_n hx hb d_Listing_init_49 rfl (lv_at hl 0 rfl) ?_
  refine lv_bipush (v := (nI 40)) hx hb d_Listing_init_50 (by decide) ?_
  refine va_newa (atype := .int) (ty := .int) (a0 := (40, .inl (fun _ => 0))) hx hb (ht _ k_62) rfl hK hP hD hS hA (fun _ => rfl) (nI_pos (by decide)) (nI_clamp (by decide)) (by decide) (Nat.le_of_ble_eq_true rfl) (Nat.le_of_ble_eq_true rfl) d_Listing_init_52 (fun q8 cA9 H hK hP hD hS => ?_)
  refine W.widen (k := 5) (n := 8083) (by omega) (by omega) ?_
  have hP : va_P (dC, dI) classes [(h0, .inr (9, [.ref a3, .ref q1, .int 0, .int 0, .int 0, .ref q4, .ref q6, .int 0, .int 0, .null, .null, .null, .int 0, .ref a1, .ref a2, .null])), (q1, .inr (0, [.ref q2, .int 0, .int 0])), (q2, .inl (cA3, 8000, .inl (fun _ => 0))), (q4, .inl (cA5, 20, .inl (fun _ => 0))), (q6, .inl (cA7, 20, .inl (fun _ => 0))), (q8, .inl (cA9, 40, .inl (fun _ => 0)))] H := hP
  have hD : va_D A [(h0, .inr (9, [.ref a3, .ref q1, .int 0, .int 0, .int 0, .ref q4, .ref q6, .int 0, .int 0, .null, .null, .null, .int 0, .ref a1, .ref a2, .null])), (q1, .inr (0, [.ref q2, .int 0, .int 0])), (q2, .inl (cA3, 8000, .inl (fun _ => 0))), (q4, .inl (cA5, 20, .inl (fun _ => 0))), (q6, .inl (cA7, 20, .inl (fun _ => 0))), (q8, .inl (cA9, 40, .inl (fun _ => 0)))] := hD
  have hK : va_K (dC, dI) classes [(cA3, .byte), (cA5, .int), (cA7, .int), (cA9, .int)] s := hK
  refine va_putF (D := (dC, dI)) (ci := 9) (v := .ref q8) (ty := .array .int) (C := R_Listing) (T := F_Listing) (N := 16) hx hb ht i_Listing t_Listing t_Listing_ok n_Listing hown hK hP hD hS 0 rfl rfl 9 (by decide) (ht _ k_253) (fun _ h9 => h9) rfl hin rfl (by decide +kernel) rfl rfl (Nat.le_of_ble_eq_true rfl) d_Listing_init_54 (fun H locs hP hD hS => ?_)
  have hP : va_P (dC, dI) classes [(h0, .inr (9, [.ref a3, .ref q1, .int 0, .int 0, .int 0, .ref q4, .ref q6, .int 0, .int 0, .ref q8, .null, .null, .int 0, .ref a1, .ref a2, .null])), (q1, .inr (0, [.ref q2, .int 0, .int 0])), (q2, .inl (cA3, 8000, .inl (fun _ => 0))), (q4, .inl (cA5, 20, .inl (fun _ => 0))), (q6, .inl (cA7, 20, .inl (fun _ => 0))), (q8, .inl (cA9, 40, .inl (fun _ => 0)))] H := hP
  have hD : va_D A [(h0, .inr (9, [.ref a3, .ref q1, .int 0, .int 0, .int 0, .ref q4, .ref q6, .int 0, .int 0, .ref q8, .null, .null, .int 0, .ref a1, .ref a2, .null])), (q1, .inr (0, [.ref q2, .int 0, .int 0])), (q2, .inl (cA3, 8000, .inl (fun _ => 0))), (q4, .inl (cA5, 20, .inl (fun _ => 0))), (q6, .inl (cA7, 20, .inl (fun _ => 0))), (q8, .inl (cA9, 40, .inl (fun _ => 0)))] := hD
  refine lv_aload_n hx hb d_Listing_init_57 rfl (lv_at hl 0 rfl) ?_
  refine lv_bipush (v := (nI 40)) hx hb d_Listing_init_58 (by decide) ?_
  refine va_newa (atype := .int) (ty := .int) (a0 := (40, .inl (fun _ => 0))) hx hb (ht _ k_62) rfl hK hP hD hS hA (fun _ => rfl) (nI_pos (by decide)) (nI_clamp (by decide)) (by decide) (Nat.le_of_ble_eq_true rfl) (Nat.le_of_ble_eq_true rfl) d_Listing_init_60 (fun q10 cA11 H hK hP hD hS => ?_)
  refine W.widen (k := 6) (n := 8123) (by omega) (by omega) ?_
  have hP : va_P (dC, dI) classes [(h0, .inr (9, [.ref a3, .ref q1, .int 0, .int 0, .int 0, .ref q4, .ref q6, .int 0, .int 0, .ref q8, .null, .null, .int 0, .ref a1, .ref a2, .null])), (q1, .inr (0, [.ref q2, .int 0, .int 0])), (q2, .inl (cA3, 8000, .inl (fun _ => 0))), (q4, .inl (cA5, 20, .inl (fun _ => 0))), (q6, .inl (cA7, 20, .inl (fun _ => 0))), (q8, .inl (cA9, 40, .inl (fun _ => 0))), (q10, .inl (cA11, 40, .inl (fun _ => 0)))] H := hP
  have hD : va_D A [(h0, .inr (9, [.ref a3, .ref q1, .int 0, .int 0, .int 0, .ref q4, .ref q6, .int 0, .int 0, .ref q8, .null, .null, .int 0, .ref a1, .ref a2, .null])), (q1, .inr (0, [.ref q2, .int 0, .int 0])), (q2, .inl (cA3, 8000, .inl (fun _ => 0))), (q4, .inl (cA5, 20, .inl (fun _ => 0))), (q6, .inl (cA7, 20, .inl (fun _ => 0))), (q8, .inl (cA9, 40, .inl (fun _ => 0))), (q10, .inl (cA11, 40, .inl (fun _ => 0)))] := hD
  have hK : va_K (dC, dI) classes [(cA3, .byte), (cA5, .int), (cA7, .int), (cA9, .int), (cA11, .int)] s := hK
  refine va_putF (D := (dC, dI)) (ci := 9) (v := .ref q10) (ty := .array .int) (C := R_Listing) (T := F_Listing) (N := 16) hx hb ht i_Listing t_Listing t_Listing_ok n_Listing hown hK hP hD hS 0 rfl rfl 10 (by decide) (ht _ k_254) (fun _ h9 => h9) rfl hin rfl (by decide +kernel) rfl rfl (Nat.le_of_ble_eq_true rfl) d_Listing_init_62 (fun H locs hP hD hS => ?_)
  have hP : va_P (dC, dI) classes [(h0, .inr (9, [.ref a3, .ref q1, .int 0, .int 0, .int 0, .ref q4, .ref q6, .int 0, .int 0, .ref q8, .ref q10, .null, .int 0, .ref a1, .ref a2, .null])), (q1, .inr (0, [.ref q2, .int 0, .int 0])), (q2, .inl (cA3, 8000, .inl (fun _ => 0))), (q4, .inl (cA5, 20, .inl (fun _ => 0))), (q6, .inl (cA7, 20, .inl (fun _ => 0))), (q8, .inl (cA9, 40, .inl (fun _ => 0))), (q10, .inl (cA11, 40, .inl (fun _ => 0)))] H := hP
  have hD : va_D A [(h0, .inr (9, [.ref a3, .ref q1, .int 0, .int 0, .int 0, .ref q4, .ref q6, .int 0, .int 0, .ref q8, .ref q10, .null, .int 0, .ref a1, .ref a2, .null])), (q1, .inr (0, [.ref q2, .int 0, .int 0])), (q2, .inl (cA3, 8000, .inl (fun _ => 0))), (q4, .inl (cA5, 20, .inl (fun _ => 0))), (q6, .inl (cA7, 20, .inl (fun _ => 0))), (q8, .inl (cA9, 40, .inl (fun _ => 0))), (q10, .inl (cA11, 40, .inl (fun _ => 0)))] := hD
  refine lv_aload_n hx hb d_Listing_init_65 rfl (lv_at hl 0 rfl) ?_
  refine lv_bipush (v := (nI 40)) hx hb d_Listing_init_66 (by decide) ?_
  refine va_newa (atype := .int) (ty := .int) (a0 := (40, .inl (fun _ => 0))) hx hb (ht _ k_62) rfl hK hP hD hS hA (fun _ => rfl) (nI_pos (by decide)) (nI_clamp (by decide)) (by decide) (Nat.le_of_ble_eq_true rfl) (Nat.le_of_ble_eq_true rfl) d_Listing_init_68 (fun q12 cA13 H hK hP hD hS => ?_)
  refine W.widen (k := 7) (n := 8163) (by omega) (by omega) ?_
  have hP : va_P (dC, dI) classes [(h0, .inr (9, [.ref a3, .ref q1, .int 0, .int 0, .int 0, .ref q4, .ref q6, .int 0, .int 0, .ref q8, .ref q10, .null, .int 0, .ref a1, .ref a2, .null])), (q1, .inr (0, [.ref q2, .int 0, .int 0])), (q2, .inl (cA3, 8000, .inl (fun _ => 0))), (q4, .inl (cA5, 20, .inl (fun _ => 0))), (q6, .inl (cA7, 20, .inl (fun _ => 0))), (q8, .inl (cA9, 40, .inl (fun _ => 0))), (q10, .inl (cA11, 40, .inl (fun _ => 0))), (q12, .inl (cA13, 40, .inl (fun _ => 0)))] H := hP
  have hD : va_D A [(h0, .inr (9, [.ref a3, .ref q1, .int 0, .int 0, .int 0, .ref q4, .ref q6, .int 0, .int 0, .ref q8, .ref q10, .null, .int 0, .ref a1, .ref a2, .null])), (q1, .inr (0, [.ref q2, .int 0, .int 0])), (q2, .inl (cA3, 8000, .inl (fun _ => 0))), (q4, .inl (cA5, 20, .inl (fun _ => 0))), (q6, .inl (cA7, 20, .inl (fun _ => 0))), (q8, .inl (cA9, 40, .inl (fun _ => 0))), (q10, .inl (cA11, 40, .inl (fun _ => 0))), (q12, .inl (cA13, 40, .inl (fun _ => 0)))] := hD
  have hK : va_K (dC, dI) classes [(cA3, .byte), (cA5, .int), (cA7, .int), (cA9, .int), (cA11, .int), (cA13, .int)] s := hK
  refine va_putF (D := (dC, dI)) (ci := 9) (v := .ref q12) (ty := .array .int) (C := R_Listing) (T := F_Listing) (N := 16) hx hb ht i_Listing t_Listing t_Listing_ok n_Listing hown hK hP hD hS 0 rfl rfl 11 (by decide) (ht _ k_255) (fun _ h9 => h9) rfl hin rfl (by decide +kernel) rfl rfl (Nat.le_of_ble_eq_true rfl) d_Listing_init_70 (fun H locs hP hD hS => ?_)
  have hP : va_P (dC, dI) classes [(h0, .inr (9, [.ref a3, .ref q1, .int 0, .int 0, .int 0, .ref q4, .ref q6, .int 0, .int 0, .ref q8, .ref q10, .ref q12, .int 0, .ref a1, .ref a2, .null])), (q1, .inr (0, [.ref q2, .int 0, .int 0])), (q2, .inl (cA3, 8000, .inl (fun _ => 0))), (q4, .inl (cA5, 20, .inl (fun _ => 0))), (q6, .inl (cA7, 20, .inl (fun _ => 0))), (q8, .inl (cA9, 40, .inl (fun _ => 0))), (q10, .inl (cA11, 40, .inl (fun _ => 0))), (q12, .inl (cA13, 40, .inl (fun _ => 0)))] H := hP
  have hD : va_D A [(h0, .inr (9, [.ref a3, .ref q1, .int 0, .int 0, .int 0, .ref q4, .ref q6, .int 0, .int 0, .ref q8, .ref q10, .ref q12, .int 0, .ref a1, .ref a2, .null])), (q1, .inr (0, [.ref q2, .int 0, .int 0])), (q2, .inl (cA3, 8000, .inl (fun _ => 0))), (q4, .inl (cA5, 20, .inl (fun _ => 0))), (q6, .inl (cA7, 20, .inl (fun _ => 0))), (q8, .inl (cA9, 40, .inl (fun _ => 0))), (q10, .inl (cA11, 40, .inl (fun _ => 0))), (q12, .inl (cA13, 40, .inl (fun _ => 0)))] := hD
  refine lv_aload_n hx hb d_Listing_init_73 rfl (lv_at hl 0 rfl) ?_
  refine va_new (ci := 0) (fs := [.null, .int 0, .int 0]) (C := R_Row) (T := F_Row) (N := 3) hx hb ht i_Row t_Row t_Row_ok hown (ht _ k_247) (ht _ k_19) (ht _ k_1) hK hP hD hS hA rfl (fun j hj => by rcases (show j = 0 ∨ j = 1 ∨ j = 2 by omega) with rfl | rfl | rfl <;> rfl) (Nat.le_of_ble_eq_true rfl) (Nat.le_of_ble_eq_true rfl) d_Listing_init_74 (fun q14 H hP hD hS => ?_)
  refine W.widen (k := 8) (n := 8166) (by omega) (by omega) ?_
  have hP : va_P (dC, dI) classes [(h0, .inr (9, [.ref a3, .ref q1, .int 0, .int 0, .int 0, .ref q4, .ref q6, .int 0, .int 0, .ref q8, .ref q10, .ref q12, .int 0, .ref a1, .ref a2, .null])), (q1, .inr (0, [.ref q2, .int 0, .int 0])), (q2, .inl (cA3, 8000, .inl (fun _ => 0))), (q4, .inl (cA5, 20, .inl (fun _ => 0))), (q6, .inl (cA7, 20, .inl (fun _ => 0))), (q8, .inl (cA9, 40, .inl (fun _ => 0))), (q10, .inl (cA11, 40, .inl (fun _ => 0))), (q12, .inl (cA13, 40, .inl (fun _ => 0))), (q14, .inr (0, [.null, .int 0, .int 0]))] H := hP
  have hD : va_D A [(h0, .inr (9, [.ref a3, .ref q1, .int 0, .int 0, .int 0, .ref q4, .ref q6, .int 0, .int 0, .ref q8, .ref q10, .ref q12, .int 0, .ref a1, .ref a2, .null])), (q1, .inr (0, [.ref q2, .int 0, .int 0])), (q2, .inl (cA3, 8000, .inl (fun _ => 0))), (q4, .inl (cA5, 20, .inl (fun _ => 0))), (q6, .inl (cA7, 20, .inl (fun _ => 0))), (q8, .inl (cA9, 40, .inl (fun _ => 0))), (q10, .inl (cA11, 40, .inl (fun _ => 0))), (q12, .inl (cA13, 40, .inl (fun _ => 0))), (q14, .inr (0, [.null, .int 0, .int 0]))] := hD
  refine lv_dup hx hb d_Listing_init_77 rfl ?_
  refine lv_sipush (v := (nI 3000)) hx hb d_Listing_init_78 (by decide) ?_
  have hPc := hP.sub (ws' := [(q14, .inr (0, [.null, .int 0, .int 0]))]) [8] rfl
  have hDc := hD.sub (ws' := [(q14, .inr (0, [.null, .int 0, .int 0]))]) [8] (by decide) rfl
  have hKc := hK.sub (tys' := []) [] rfl
  have hFc := va_free (wc := [(q14, .inr (0, [.null, .int 0, .int 0]))]) hD hS hA [8] rfl
  refine va_callv (va_runI (As := [.int (nI 3000)]) (rest := [.ref q14, .ref h0]) ⟨hx, hb, hml, hown, ht⟩ (c_Row_init l dC dI q14 H.size 3000 (by decide) (by decide)) (cwI 1 ht (xw_good k_22) rfl rfl rfl (ht _ k_1) (ht _ k_248) (ht _ k_21) rfl (by decide +kernel) ⟨(Nat.le_of_ble_eq_true rfl), (Nat.le_of_ble_eq_true rfl)⟩) ⟨fun a U g mk q => by obtain ⟨q0, q1, qP, qK, qD⟩ := q; exact ⟨q0, q1, qP, va_K.moved (u := U) (U := U.calling g mk a) (Vm.Alike.refl U.vm) qK, qD⟩, fun U hU hW => ⟨rfl, by rw [hU], by rw [hU]; exact hPc, va_K.moved hW.alike hKc, hDc.weaken (fun _ _ _ _ => trivial)⟩⟩ rfl rfl hl.1 rfl (lv_room (Nat.le_of_ble_eq_true rfl)) d_Listing_init_81 ⟨(Nat.le_of_ble_eq_true rfl), (Nat.le_of_ble_eq_true rfl)⟩) hS (fun q _ h => hFc q h) hFc (fun u t H1 locs ht9 hvm hw hB hz1 hk1 hS => ?_)
  obtain ⟨q15, cA16, hP1, hK1, hD1⟩ := hB
  rw [ht9] at hP1
  have hK1 := va_K.moved hvm.symm hK1
  obtain ⟨hP, hD⟩ := va_join (wr := [(h0, .inr (9, [.ref a3, .ref q1, .int 0, .int 0, .int 0, .ref q4, .ref q6, .int 0, .int 0, .ref q8, .ref q10, .ref q12, .int 0, .ref a1, .ref a2, .null])), (q1, .inr (0, [.ref q2, .int 0, .int 0])), (q2, .inl (cA3, 8000, .inl (fun _ => 0))), (q4, .inl (cA5, 20, .inl (fun _ => 0))), (q6, .inl (cA7, 20, .inl (fun _ => 0))), (q8, .inl (cA9, 40, .inl (fun _ => 0))), (q10, .inl (cA11, 40, .inl (fun _ => 0))), (q12, .inl (cA13, 40, .inl (fun _ => 0)))]) (w1 := [(q14, .inr (0, [.ref q15, .int 0, .int 0])), (q15, .inl (cA16, 3000, .inl (fun _ => 0)))]) hP hD [8] [0, 1, 2, 3, 4, 5, 6, 7] rfl rfl (by decide) (by decide) hk1 hFc hP1 hD1
  have hK := (hK.sub (tys' := [(cA3, .byte), (cA5, .int), (cA7, .int), (cA9, .int), (cA11, .int), (cA13, .int)]) [0, 1, 2, 3, 4, 5] rfl).app hK1
  generalize H1 = H at hP hS ⊢
  have hP : va_P (dC, dI) classes [(h0, .inr (9, [.ref a3, .ref q1, .int 0, .int 0, .int 0, .ref q4, .ref q6, .int 0, .int 0, .ref q8, .ref q10, .ref q12, .int 0, .ref a1, .ref a2, .null])), (q1, .inr (0, [.ref q2, .int 0, .int 0])), (q2, .inl (cA3, 8000, .inl (fun _ => 0))), (q4, .inl (cA5, 20, .inl (fun _ => 0))), (q6, .inl (cA7, 20, .inl (fun _ => 0))), (q8, .inl (cA9, 40, .inl (fun _ => 0))), (q10, .inl (cA11, 40, .inl (fun _ => 0))), (q12, .inl (cA13, 40, .inl (fun _ => 0))), (q14, .inr (0, [.ref q15, .int 0, .int 0])), (q15, .inl (cA16, 3000, .inl (fun _ => 0)))] H := hP
  have hD : va_D A [(h0, .inr (9, [.ref a3, .ref q1, .int 0, .int 0, .int 0, .ref q4, .ref q6, .int 0, .int 0, .ref q8, .ref q10, .ref q12, .int 0, .ref a1, .ref a2, .null])), (q1, .inr (0, [.ref q2, .int 0, .int 0])), (q2, .inl (cA3, 8000, .inl (fun _ => 0))), (q4, .inl (cA5, 20, .inl (fun _ => 0))), (q6, .inl (cA7, 20, .inl (fun _ => 0))), (q8, .inl (cA9, 40, .inl (fun _ => 0))), (q10, .inl (cA11, 40, .inl (fun _ => 0))), (q12, .inl (cA13, 40, .inl (fun _ => 0))), (q14, .inr (0, [.ref q15, .int 0, .int 0])), (q15, .inl (cA16, 3000, .inl (fun _ => 0)))] := hD
  have hK : va_K (dC, dI) classes [(cA3, .byte), (cA5, .int), (cA7, .int), (cA9, .int), (cA11, .int), (cA13, .int), (cA16, .byte)] s := hK
  refine W.widen (k := 9) (n := 11166) (by omega) (by omega) ?_
  refine va_putF (D := (dC, dI)) (ci := 9) (v := .ref q14) (ty := .object "AddressHouse$Row") (C := R_Listing) (T := F_Listing) (N := 16) hx hb ht i_Listing t_Listing t_Listing_ok n_Listing hown hK hP hD hS 0 rfl rfl 15 (by decide) (ht _ k_258) (fun _ h9 => h9) rfl hin rfl (by decide +kernel) rfl rfl (Nat.le_of_ble_eq_true rfl) d_Listing_init_84 (fun H locs hP hD hS => ?_)
  have hP : va_P (dC, dI) classes [(h0, .inr (9, [.ref a3, .ref q1, .int 0, .int 0, .int 0, .ref q4, .ref q6, .int 0, .int 0, .ref q8, .ref q10, .ref q12, .int 0, .ref a1, .ref a2, .ref q14])), (q1, .inr (0, [.ref q2, .int 0, .int 0])), (q2, .inl (cA3, 8000, .inl (fun _ => 0))), (q4, .inl (cA5, 20, .inl (fun _ => 0))), (q6, .inl (cA7, 20, .inl (fun _ => 0))), (q8, .inl (cA9, 40, .inl (fun _ => 0))), (q10, .inl (cA11, 40, .inl (fun _ => 0))), (q12, .inl (cA13, 40, .inl (fun _ => 0))), (q14, .inr (0, [.ref q15, .int 0, .int 0])), (q15, .inl (cA16, 3000, .inl (fun _ => 0)))] H := hP
  have hD : va_D A [(h0, .inr (9, [.ref a3, .ref q1, .int 0, .int 0, .int 0, .ref q4, .ref q6, .int 0, .int 0, .ref q8, .ref q10, .ref q12, .int 0, .ref a1, .ref a2, .ref q14])), (q1, .inr (0, [.ref q2, .int 0, .int 0])), (q2, .inl (cA3, 8000, .inl (fun _ => 0))), (q4, .inl (cA5, 20, .inl (fun _ => 0))), (q6, .inl (cA7, 20, .inl (fun _ => 0))), (q8, .inl (cA9, 40, .inl (fun _ => 0))), (q10, .inl (cA11, 40, .inl (fun _ => 0))), (q12, .inl (cA13, 40, .inl (fun _ => 0))), (q14, .inr (0, [.ref q15, .int 0, .int 0])), (q15, .inl (cA16, 3000, .inl (fun _ => 0)))] := hD
  have hP9 := hP.sub (ws' := [(h0, .inr (9, [.ref a3, .ref q1, .int 0, .int 0, .int 0, .ref q4, .ref q6, .int 0, .int 0, .ref q8, .ref q10, .ref q12, .int 0, .ref a1, .ref a2, .ref q14]))]) [0] rfl
  have hD9 := hD.sub (ws' := [(h0, .inr (9, [.ref a3, .ref q1, .int 0, .int 0, .int 0, .ref q4, .ref q6, .int 0, .int 0, .ref q8, .ref q10, .ref q12, .int 0, .ref a1, .ref a2, .ref q14]))]) [0] (by decide) rfl
  have hK9 := hK.sub (tys' := []) [] rfl
  exact W.vret hx hb hr (fun t ht9 hW => ⟨⟨(), rfl, trivial, a3, q1, q4, q6, q8, q10, q12, a1, a2, q14, by rw [ht9]; exact hP9, va_K.moved hW.alike hK9, hD9⟩, hS.F ht9⟩) hS.2.2 d_Listing_init_87
end
