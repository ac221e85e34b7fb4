def R_Row : String := "AddressHouse$Row"
def F_Row : u_T := fun k => match k with
  | 0 => ("AddressHouse$Row", "cells", "[B", true)
  | 1 => ("AddressHouse$Row", "size", "I", false)
  | _ => ("AddressHouse$Row", "over", "Z", false)
def t_Row : Nat → FieldType := fun k => match k with
  | 0 => .array .byte
  | 1 => .int
  | _ => .boolean
theorem n_Row : ∀ a, a < 3 → ∀ b, b < 3 → a ≠ b → (F_Row a).2.1 ≠ (F_Row b).2.1 := by decide +kernel
theorem t_Row_ok : ∀ k, k < 3 → parseFieldDescriptor (F_Row k).2.2.1 = some (t_Row k) := by decide +kernel
def R_Wire : String := "AddressHouse$Wire"
def F_Wire : u_T := fun k => match k with
  | 0 => ("AddressHouse$Wire", "head", "LAddressHouse$Row;", true)
  | 1 => ("AddressHouse$Wire", "load", "LAddressHouse$Row;", true)
  | 2 => ("AddressHouse$Wire", "from", "[I", true)
  | 3 => ("AddressHouse$Wire", "to", "[I", true)
  | 4 => ("AddressHouse$Wire", "alive", "Z", false)
  | 5 => ("AddressHouse$Wire", "methodTo", "I", false)
  | 6 => ("AddressHouse$Wire", "targetTo", "I", false)
  | 7 => ("AddressHouse$Wire", "state", "I", false)
  | 8 => ("AddressHouse$Wire", "need", "I", false)
  | 9 => ("AddressHouse$Wire", "digits", "I", false)
  | _ => ("AddressHouse$Wire", "twice", "Z", false)
def t_Wire : Nat → FieldType := fun k => match k with
  | 0 => .object "AddressHouse$Row"
  | 1 => .object "AddressHouse$Row"
  | 2 => .array .int
  | 3 => .array .int
  | 4 => .boolean
  | 5 => .int
  | 6 => .int
  | 7 => .int
  | 8 => .int
  | 9 => .int
  | _ => .boolean
theorem n_Wire : ∀ a, a < 11 → ∀ b, b < 11 → a ≠ b → (F_Wire a).2.1 ≠ (F_Wire b).2.1 := by decide +kernel
theorem t_Wire_ok : ∀ k, k < 11 → parseFieldDescriptor (F_Wire k).2.2.1 = some (t_Wire k) := by decide +kernel
def R_Book : String := "AddressHouse$Book"
def F_Book : u_T := fun k => match k with
  | 0 => ("AddressHouse$Book", "owner", "I", false)
  | 1 => ("AddressHouse$Book", "made", "I", false)
  | 2 => ("AddressHouse$Book", "name", "LAddressHouse$Row;", true)
  | 3 => ("AddressHouse$Book", "title", "LAddressHouse$Row;", true)
  | 4 => ("AddressHouse$Book", "hasTitle", "Z", false)
  | 5 => ("AddressHouse$Book", "note", "LAddressHouse$Row;", true)
  | 6 => ("AddressHouse$Book", "hasNote", "Z", false)
  | 7 => ("AddressHouse$Book", "readers", "[I", true)
  | 8 => ("AddressHouse$Book", "readerCount", "I", false)
  | 9 => ("AddressHouse$Book", "goneNames", "[LAddressHouse$Row;", true)
  | 10 => ("AddressHouse$Book", "goneChanges", "[I", true)
  | 11 => ("AddressHouse$Book", "goneCount", "I", false)
  | _ => ("AddressHouse$Book", "forgotten", "I", false)
def t_Book : Nat → FieldType := fun k => match k with
  | 0 => .int
  | 1 => .int
  | 2 => .object "AddressHouse$Row"
  | 3 => .object "AddressHouse$Row"
  | 4 => .boolean
  | 5 => .object "AddressHouse$Row"
  | 6 => .boolean
  | 7 => .array .int
  | 8 => .int
  | 9 => .array (.object "AddressHouse$Row")
  | 10 => .array .int
  | 11 => .int
  | _ => .int
theorem n_Book : ∀ a, a < 13 → ∀ b, b < 13 → a ≠ b → (F_Book a).2.1 ≠ (F_Book b).2.1 := by decide +kernel
theorem t_Book_ok : ∀ k, k < 13 → parseFieldDescriptor (F_Book k).2.2.1 = some (t_Book k) := by decide +kernel
def R_Item : String := "AddressHouse$Item"
def F_Item : u_T := fun k => match k with
  | 0 => ("AddressHouse$Item", "book", "I", false)
  | 1 => ("AddressHouse$Item", "change", "I", false)
  | 2 => ("AddressHouse$Item", "name", "LAddressHouse$Row;", true)
  | 3 => ("AddressHouse$Item", "text", "LAddressHouse$Row;", true)
  | _ => ("AddressHouse$Item", "uid", "LAddressHouse$Row;", true)
def t_Item : Nat → FieldType := fun k => match k with
  | 0 => .int
  | 1 => .int
  | 2 => .object "AddressHouse$Row"
  | 3 => .object "AddressHouse$Row"
  | _ => .object "AddressHouse$Row"
theorem n_Item : ∀ a, a < 5 → ∀ b, b < 5 → a ≠ b → (F_Item a).2.1 ≠ (F_Item b).2.1 := by decide +kernel
theorem t_Item_ok : ∀ k, k < 5 → parseFieldDescriptor (F_Item k).2.2.1 = some (t_Item k) := by decide +kernel
def R_House : String := "AddressHouse$House"
def F_House : u_T := fun k => match k with
  | 0 => ("AddressHouse$House", "users", "[LAddressHouse$Row;", true)
  | 1 => ("AddressHouse$House", "nameTo", "[I", true)
  | 2 => ("AddressHouse$House", "userCount", "I", false)
  | 3 => ("AddressHouse$House", "books", "[LAddressHouse$Book;", true)
  | 4 => ("AddressHouse$House", "items", "[LAddressHouse$Item;", true)
  | 5 => ("AddressHouse$House", "changes", "I", false)
  | 6 => ("AddressHouse$House", "order", "[I", true)
  | 7 => ("AddressHouse$House", "secret", "LAddressHouse$Row;", true)
  | 8 => ("AddressHouse$House", "noBook", "LAddressHouse$Book;", true)
  | 9 => ("AddressHouse$House", "noItem", "LAddressHouse$Item;", true)
  | 10 => ("AddressHouse$House", "path", "LAddressHouse$Row;", true)
  | 11 => ("AddressHouse$House", "kind", "I", false)
  | 12 => ("AddressHouse$House", "owner", "I", false)
  | 13 => ("AddressHouse$House", "book", "I", false)
  | 14 => ("AddressHouse$House", "item", "I", false)
  | 15 => ("AddressHouse$House", "lastFrom", "I", false)
  | _ => ("AddressHouse$House", "lastTo", "I", false)
def t_House : Nat → FieldType := fun k => match k with
  | 0 => .array (.object "AddressHouse$Row")
  | 1 => .array .int
  | 2 => .int
  | 3 => .array (.object "AddressHouse$Book")
  | 4 => .array (.object "AddressHouse$Item")
  | 5 => .int
  | 6 => .array .int
  | 7 => .object "AddressHouse$Row"
  | 8 => .object "AddressHouse$Book"
  | 9 => .object "AddressHouse$Item"
  | 10 => .object "AddressHouse$Row"
  | 11 => .int
  | 12 => .int
  | 13 => .int
  | 14 => .int
  | 15 => .int
  | _ => .int
theorem n_House : ∀ a, a < 17 → ∀ b, b < 17 → a ≠ b → (F_House a).2.1 ≠ (F_House b).2.1 := by decide +kernel
theorem t_House_ok : ∀ k, k < 17 → parseFieldDescriptor (F_House k).2.2.1 = some (t_House k) := by decide +kernel
def R_Card : String := "AddressHouse$Card"
def F_Card : u_T := fun k => match k with
  | 0 => ("AddressHouse$Card", "text", "LAddressHouse$Row;", true)
  | 1 => ("AddressHouse$Card", "version", "I", false)
  | 2 => ("AddressHouse$Card", "properties", "[[I", true)
  | 3 => ("AddressHouse$Card", "size", "I", false)
  | 4 => ("AddressHouse$Card", "parameters", "[[I", true)
  | 5 => ("AddressHouse$Card", "parameterCount", "I", false)
  | 6 => ("AddressHouse$Card", "valueFrom", "[I", true)
  | 7 => ("AddressHouse$Card", "valueTo", "[I", true)
  | 8 => ("AddressHouse$Card", "valueCount", "I", false)
  | _ => ("AddressHouse$Card", "tally", "[I", true)
def t_Card : Nat → FieldType := fun k => match k with
  | 0 => .object "AddressHouse$Row"
  | 1 => .int
  | 2 => .array (.array .int)
  | 3 => .int
  | 4 => .array (.array .int)
  | 5 => .int
  | 6 => .array .int
  | 7 => .array .int
  | 8 => .int
  | _ => .array .int
theorem n_Card : ∀ a, a < 10 → ∀ b, b < 10 → a ≠ b → (F_Card a).2.1 ≠ (F_Card b).2.1 := by decide +kernel
theorem t_Card_ok : ∀ k, k < 10 → parseFieldDescriptor (F_Card k).2.2.1 = some (t_Card k) := by decide +kernel
def R_Xml : String := "AddressHouse$Xml"
def F_Xml : u_T := fun k => match k with
  | 0 => ("AddressHouse$Xml", "elements", "[[I", true)
  | 1 => ("AddressHouse$Xml", "size", "I", false)
  | 2 => ("AddressHouse$Xml", "attributes", "[[I", true)
  | 3 => ("AddressHouse$Xml", "attributeCount", "I", false)
  | 4 => ("AddressHouse$Xml", "values", "LAddressHouse$Row;", true)
  | 5 => ("AddressHouse$Xml", "spaces", "[[I", true)
  | 6 => ("AddressHouse$Xml", "spaceCount", "I", false)
  | 7 => ("AddressHouse$Xml", "bindings", "[[I", true)
  | 8 => ("AddressHouse$Xml", "bindingCount", "I", false)
  | 9 => ("AddressHouse$Xml", "marks", "[I", true)
  | 10 => ("AddressHouse$Xml", "stack", "[I", true)
  | 11 => ("AddressHouse$Xml", "depth", "I", false)
  | 12 => ("AddressHouse$Xml", "loose", "LAddressHouse$Row;", true)
  | 13 => ("AddressHouse$Xml", "owners", "[I", true)
  | 14 => ("AddressHouse$Xml", "texts", "LAddressHouse$Row;", true)
  | 15 => ("AddressHouse$Xml", "source", "LAddressHouse$Row;", false)
  | _ => ("AddressHouse$Xml", "pos", "I", false)
def t_Xml : Nat → FieldType := fun k => match k with
  | 0 => .array (.array .int)
  | 1 => .int
  | 2 => .array (.array .int)
  | 3 => .int
  | 4 => .object "AddressHouse$Row"
  | 5 => .array (.array .int)
  | 6 => .int
  | 7 => .array (.array .int)
  | 8 => .int
  | 9 => .array .int
  | 10 => .array .int
  | 11 => .int
  | 12 => .object "AddressHouse$Row"
  | 13 => .array .int
  | 14 => .object "AddressHouse$Row"
  | 15 => .object "AddressHouse$Row"
  | _ => .int
theorem n_Xml : ∀ a, a < 17 → ∀ b, b < 17 → a ≠ b → (F_Xml a).2.1 ≠ (F_Xml b).2.1 := by decide +kernel
theorem t_Xml_ok : ∀ k, k < 17 → parseFieldDescriptor (F_Xml k).2.2.1 = some (t_Xml k) := by decide +kernel
def R_Scribe : String := "AddressHouse$Scribe"
def F_Scribe : u_T := fun k => match k with
  | 0 => ("AddressHouse$Scribe", "card", "LAddressHouse$Card;", true)
  | 1 => ("AddressHouse$Scribe", "xml", "LAddressHouse$Xml;", true)
  | 2 => ("AddressHouse$Scribe", "line", "LAddressHouse$Row;", true)
  | 3 => ("AddressHouse$Scribe", "part", "LAddressHouse$Row;", true)
  | 4 => ("AddressHouse$Scribe", "page", "LAddressHouse$Row;", false)
  | 5 => ("AddressHouse$Scribe", "picker", "I", false)
  | 6 => ("AddressHouse$Scribe", "choosy", "Z", false)
  | 7 => ("AddressHouse$Scribe", "nameEnd", "I", false)
  | _ => ("AddressHouse$Scribe", "valueStart", "I", false)
def t_Scribe : Nat → FieldType := fun k => match k with
  | 0 => .object "AddressHouse$Card"
  | 1 => .object "AddressHouse$Xml"
  | 2 => .object "AddressHouse$Row"
  | 3 => .object "AddressHouse$Row"
  | 4 => .object "AddressHouse$Row"
  | 5 => .int
  | 6 => .boolean
  | 7 => .int
  | _ => .int
theorem n_Scribe : ∀ a, a < 9 → ∀ b, b < 9 → a ≠ b → (F_Scribe a).2.1 ≠ (F_Scribe b).2.1 := by decide +kernel
theorem t_Scribe_ok : ∀ k, k < 9 → parseFieldDescriptor (F_Scribe k).2.2.1 = some (t_Scribe k) := by decide +kernel
def R_Filter : String := "AddressHouse$Filter"
def F_Filter : u_T := fun k => match k with
  | 0 => ("AddressHouse$Filter", "xml", "LAddressHouse$Xml;", true)
  | 1 => ("AddressHouse$Filter", "card", "LAddressHouse$Card;", true)
  | 2 => ("AddressHouse$Filter", "filters", "[[I", true)
  | 3 => ("AddressHouse$Filter", "filterCount", "I", false)
  | 4 => ("AddressHouse$Filter", "tests", "[[I", true)
  | 5 => ("AddressHouse$Filter", "testCount", "I", false)
  | 6 => ("AddressHouse$Filter", "all", "Z", false)
  | 7 => ("AddressHouse$Filter", "needles", "LAddressHouse$Row;", true)
  | _ => ("AddressHouse$Filter", "value", "LAddressHouse$Row;", true)
def t_Filter : Nat → FieldType := fun k => match k with
  | 0 => .object "AddressHouse$Xml"
  | 1 => .object "AddressHouse$Card"
  | 2 => .array (.array .int)
  | 3 => .int
  | 4 => .array (.array .int)
  | 5 => .int
  | 6 => .boolean
  | 7 => .object "AddressHouse$Row"
  | _ => .object "AddressHouse$Row"
theorem n_Filter : ∀ a, a < 9 → ∀ b, b < 9 → a ≠ b → (F_Filter a).2.1 ≠ (F_Filter b).2.1 := by decide +kernel
theorem t_Filter_ok : ∀ k, k < 9 → parseFieldDescriptor (F_Filter k).2.2.1 = some (t_Filter k) := by decide +kernel
def R_Listing : String := "AddressHouse$Listing"
def F_Listing : u_T := fun k => match k with
  | 0 => ("AddressHouse$Listing", "body", "LAddressHouse$Row;", true)
  | 1 => ("AddressHouse$Listing", "data", "LAddressHouse$Row;", true)
  | 2 => ("AddressHouse$Listing", "user", "I", false)
  | 3 => ("AddressHouse$Listing", "book", "I", false)
  | 4 => ("AddressHouse$Listing", "mode", "I", false)
  | 5 => ("AddressHouse$Listing", "asked", "[I", true)
  | 6 => ("AddressHouse$Listing", "codes", "[I", true)
  | 7 => ("AddressHouse$Listing", "askedCount", "I", false)
  | 8 => ("AddressHouse$Listing", "dataElement", "I", false)
  | 9 => ("AddressHouse$Listing", "kinds", "[I", true)
  | 10 => ("AddressHouse$Listing", "indexes", "[I", true)
  | 11 => ("AddressHouse$Listing", "statuses", "[I", true)
  | 12 => ("AddressHouse$Listing", "entryCount", "I", false)
  | 13 => ("AddressHouse$Listing", "house", "LAddressHouse$House;", true)
  | 14 => ("AddressHouse$Listing", "xml", "LAddressHouse$Xml;", true)
  | _ => ("AddressHouse$Listing", "name", "LAddressHouse$Row;", true)
def t_Listing : Nat → FieldType := fun k => match k with
  | 0 => .object "AddressHouse$Row"
  | 1 => .object "AddressHouse$Row"
  | 2 => .int
  | 3 => .int
  | 4 => .int
  | 5 => .array .int
  | 6 => .array .int
  | 7 => .int
  | 8 => .int
  | 9 => .array .int
  | 10 => .array .int
  | 11 => .array .int
  | 12 => .int
  | 13 => .object "AddressHouse$House"
  | 14 => .object "AddressHouse$Xml"
  | _ => .object "AddressHouse$Row"
theorem n_Listing : ∀ a, a < 16 → ∀ b, b < 16 → a ≠ b → (F_Listing a).2.1 ≠ (F_Listing b).2.1 := by decide +kernel
theorem t_Listing_ok : ∀ k, k < 16 → parseFieldDescriptor (F_Listing k).2.2.1 = some (t_Listing k) := by decide +kernel
def R_Clerk : String := "AddressHouse$Clerk"
def F_Clerk : u_T := fun k => match k with
  | 0 => ("AddressHouse$Clerk", "xmlRight", "Z", false)
  | 1 => ("AddressHouse$Clerk", "status", "I", false)
  | 2 => ("AddressHouse$Clerk", "page", "LAddressHouse$Row;", false)
  | 3 => ("AddressHouse$Clerk", "version", "I", false)
  | 4 => ("AddressHouse$Clerk", "house", "LAddressHouse$House;", true)
  | 5 => ("AddressHouse$Clerk", "listing", "LAddressHouse$Listing;", true)
  | 6 => ("AddressHouse$Clerk", "card", "LAddressHouse$Card;", true)
  | 7 => ("AddressHouse$Clerk", "xml", "LAddressHouse$Xml;", true)
  | 8 => ("AddressHouse$Clerk", "filter", "LAddressHouse$Filter;", true)
  | 9 => ("AddressHouse$Clerk", "told", "LAddressHouse$Row;", true)
  | 10 => ("AddressHouse$Clerk", "plain", "LAddressHouse$Row;", true)
  | 11 => ("AddressHouse$Clerk", "wire", "LAddressHouse$Wire;", false)
  | 12 => ("AddressHouse$Clerk", "closing", "Z", false)
  | 13 => ("AddressHouse$Clerk", "type", "I", false)
  | 14 => ("AddressHouse$Clerk", "method", "I", false)
  | 15 => ("AddressHouse$Clerk", "user", "I", false)
  | 16 => ("AddressHouse$Clerk", "querying", "Z", false)
  | _ => ("AddressHouse$Clerk", "tail", "I", false)
def t_Clerk : Nat → FieldType := fun k => match k with
  | 0 => .boolean
  | 1 => .int
  | 2 => .object "AddressHouse$Row"
  | 3 => .int
  | 4 => .object "AddressHouse$House"
  | 5 => .object "AddressHouse$Listing"
  | 6 => .object "AddressHouse$Card"
  | 7 => .object "AddressHouse$Xml"
  | 8 => .object "AddressHouse$Filter"
  | 9 => .object "AddressHouse$Row"
  | 10 => .object "AddressHouse$Row"
  | 11 => .object "AddressHouse$Wire"
  | 12 => .boolean
  | 13 => .int
  | 14 => .int
  | 15 => .int
  | 16 => .boolean
  | _ => .int
theorem n_Clerk : ∀ a, a < 18 → ∀ b, b < 18 → a ≠ b → (F_Clerk a).2.1 ≠ (F_Clerk b).2.1 := by decide +kernel
theorem t_Clerk_ok : ∀ k, k < 18 → parseFieldDescriptor (F_Clerk k).2.2.1 = some (t_Clerk k) := by decide +kernel
def R_Top : String := "AddressHouse"
def F_Top : u_T := fun k => match k with
  | 0 => ("AddressHouse", "tape", "LAddressHouse$Row;", true)
  | 1 => ("AddressHouse", "answers", "LAddressHouse$Row;", true)
  | 2 => ("AddressHouse", "wires", "[LAddressHouse$Wire;", true)
  | 3 => ("AddressHouse", "house", "LAddressHouse$House;", true)
  | 4 => ("AddressHouse", "card", "LAddressHouse$Card;", true)
  | 5 => ("AddressHouse", "scribe", "LAddressHouse$Scribe;", true)
  | 6 => ("AddressHouse", "xml", "LAddressHouse$Xml;", true)
  | 7 => ("AddressHouse", "listing", "LAddressHouse$Listing;", true)
  | _ => ("AddressHouse", "clerk", "LAddressHouse$Clerk;", true)
def t_Top : Nat → FieldType := fun k => match k with
  | 0 => .object "AddressHouse$Row"
  | 1 => .object "AddressHouse$Row"
  | 2 => .array (.object "AddressHouse$Wire")
  | 3 => .object "AddressHouse$House"
  | 4 => .object "AddressHouse$Card"
  | 5 => .object "AddressHouse$Scribe"
  | 6 => .object "AddressHouse$Xml"
  | 7 => .object "AddressHouse$Listing"
  | _ => .object "AddressHouse$Clerk"
theorem n_Top : ∀ a, a < 9 → ∀ b, b < 9 → a ≠ b → (F_Top a).2.1 ≠ (F_Top b).2.1 := by decide +kernel
theorem t_Top_ok : ∀ k, k < 9 → parseFieldDescriptor (F_Top k).2.2.1 = some (t_Top k) := by decide +kernel
abbrev b_Row_init : ByteArray := prog_9_method_1_code
def y_Row_init : MethodName := ⟨"AddressHouse$Row", "<init>", "(I)V"⟩
abbrev b_Row_clear : ByteArray := prog_9_method_2_code
def y_Row_clear : MethodName := ⟨"AddressHouse$Row", "clear", "()V"⟩
abbrev b_Row_cutTo : ByteArray := prog_9_method_3_code
def y_Row_cutTo : MethodName := ⟨"AddressHouse$Row", "cutTo", "(I)V"⟩
abbrev b_Row_at : ByteArray := prog_9_method_4_code
def y_Row_at : MethodName := ⟨"AddressHouse$Row", "at", "(I)I"⟩
abbrev b_Row_put : ByteArray := prog_9_method_5_code
def y_Row_put : MethodName := ⟨"AddressHouse$Row", "put", "(I)V"⟩
abbrev b_Row_four : ByteArray := prog_9_method_6_code
def y_Row_four : MethodName := ⟨"AddressHouse$Row", "four", "(I)V"⟩
abbrev b_Wire_init : ByteArray := prog_11_method_1_code
def y_Wire_init : MethodName := ⟨"AddressHouse$Wire", "<init>", "()V"⟩
abbrev b_Wire_next : ByteArray := prog_11_method_2_code
def y_Wire_next : MethodName := ⟨"AddressHouse$Wire", "next", "()V"⟩
abbrev b_Book_init : ByteArray := prog_2_method_1_code
def y_Book_init : MethodName := ⟨"AddressHouse$Book", "<init>", "()V"⟩
abbrev b_Item_init : ByteArray := prog_7_method_1_code
def y_Item_init : MethodName := ⟨"AddressHouse$Item", "<init>", "()V"⟩
abbrev b_House_init : ByteArray := prog_6_method_1_code
def y_House_init : MethodName := ⟨"AddressHouse$House", "<init>", "()V"⟩
abbrev b_House_addUser : ByteArray := prog_6_method_2_code
def y_House_addUser : MethodName := ⟨"AddressHouse$House", "addUser", "(LAddressHouse$Row;)I"⟩
abbrev b_House_bookCount : ByteArray := prog_6_method_14_code
def y_House_bookCount : MethodName := ⟨"AddressHouse$House", "bookCount", "()I"⟩
abbrev b_House_itemCount : ByteArray := prog_6_method_15_code
def y_House_itemCount : MethodName := ⟨"AddressHouse$House", "itemCount", "()I"⟩
abbrev b_Card_init : ByteArray := prog_3_method_1_code
def y_Card_init : MethodName := ⟨"AddressHouse$Card", "<init>", "()V"⟩
abbrev b_Card_read : ByteArray := prog_3_method_2_code
def y_Card_read : MethodName := ⟨"AddressHouse$Card", "read", "(LAddressHouse$Row;)Z"⟩
abbrev b_Card_unfold : ByteArray := prog_3_method_3_code
def y_Card_unfold : MethodName := ⟨"AddressHouse$Card", "unfold", "(LAddressHouse$Row;)V"⟩
abbrev b_Card_isClean : ByteArray := prog_3_method_4_code
def y_Card_isClean : MethodName := ⟨"AddressHouse$Card", "isClean", "()Z"⟩
abbrev b_Xml_init : ByteArray := prog_12_method_1_code
def y_Xml_init : MethodName := ⟨"AddressHouse$Xml", "<init>", "()V"⟩
abbrev b_Scribe_init : ByteArray := prog_10_method_1_code
def y_Scribe_init : MethodName := ⟨"AddressHouse$Scribe", "<init>", "(LAddressHouse$Card;LAddressHouse$Xml;)V"⟩
abbrev b_Filter_init : ByteArray := prog_5_method_1_code
def y_Filter_init : MethodName := ⟨"AddressHouse$Filter", "<init>", "(LAddressHouse$Xml;LAddressHouse$Card;)V"⟩
abbrev b_Listing_init : ByteArray := prog_8_method_1_code
def y_Listing_init : MethodName := ⟨"AddressHouse$Listing", "<init>", "(LAddressHouse$House;LAddressHouse$Xml;LAddressHouse$Row;)V"⟩
abbrev b_Clerk_init : ByteArray := prog_4_method_1_code
def y_Clerk_init : MethodName := ⟨"AddressHouse$Clerk", "<init>", "(LAddressHouse$House;LAddressHouse$Listing;LAddressHouse$Card;LAddressHouse$Xml;)V"⟩
abbrev b_Top_init : ByteArray := prog_1_method_1_code
def y_Top_init : MethodName := ⟨"AddressHouse", "<init>", "()V"⟩
abbrev b_Top_feed : ByteArray := prog_1_method_2_code
def y_Top_feed : MethodName := ⟨"AddressHouse", "feed", "(IIIII)Z"⟩
abbrev b_Top_end : ByteArray := prog_1_method_3_code
def y_Top_end : MethodName := ⟨"AddressHouse", "end", "(I)Z"⟩
abbrev b_Top_user : ByteArray := prog_1_method_4_code
def y_Top_user : MethodName := ⟨"AddressHouse", "user", "()I"⟩
abbrev b_Top_open : ByteArray := prog_1_method_5_code
def y_Top_open : MethodName := ⟨"AddressHouse", "open", "()I"⟩
abbrev b_Top_isOpen : ByteArray := prog_1_method_7_code
def y_Top_isOpen : MethodName := ⟨"AddressHouse", "isOpen", "(I)Z"⟩
abbrev b_Top_shut : ByteArray := prog_1_method_8_code
def y_Top_shut : MethodName := ⟨"AddressHouse", "shut", "(I)Z"⟩
abbrev b_Top_out : ByteArray := prog_1_method_9_code
def y_Top_out : MethodName := ⟨"AddressHouse", "out", "()I"⟩
abbrev b_Top_count : ByteArray := prog_1_method_12_code
def y_Top_count : MethodName := ⟨"AddressHouse", "count", "(I)I"⟩
abbrev b_Top_turn : ByteArray := prog_1_method_11_code
def y_Top_turn : MethodName := ⟨"AddressHouse", "turn", "(I)I"⟩
abbrev b_Top_come : ByteArray := prog_1_method_6_code
def y_Top_come : MethodName := ⟨"AddressHouse", "come", "(I)I"⟩
abbrev b_Top_outAt : ByteArray := prog_1_method_10_code
def y_Top_outAt : MethodName := ⟨"AddressHouse", "outAt", "(I)I"⟩
def xw0_0 : List Cond := [Jvm.Cond.initialized "AddressHouse", Jvm.Cond.initialized "AddressHouse$Row", Jvm.Cond.initialized "AddressHouse$Wire", Jvm.Cond.initialized "AddressHouse$House", Jvm.Cond.initialized "AddressHouse$Book", Jvm.Cond.initialized "AddressHouse$Item", Jvm.Cond.initialized "AddressHouse$Card", Jvm.Cond.initialized "AddressHouse$Xml", Jvm.Cond.initialized "AddressHouse$Scribe", Jvm.Cond.initialized "AddressHouse$Listing", Jvm.Cond.initialized "AddressHouse$Clerk", Jvm.Cond.initialized "AddressHouse$Filter", Jvm.Cond.instantiable "AddressHouse" (9 : Nat), Jvm.Cond.instanceMethod ({ cls := "AddressHouse", name := "<init>", desc := "()V" } : Jvm.MethodName), Jvm.Cond.code ({ cls := "AddressHouse", name := "<init>", desc := "()V" } : Jvm.MethodName) prog_1_method_1_code (2 : Nat) (Option.none : Option Jvm.ClassFile.FieldType), Jvm.Cond.methodLink "AddressHouse" (1 : Nat) ({ cls := "java/lang/Object", name := "<init>", desc := "()V" } : Jvm.MethodName), Jvm.Cond.instanceMethod ({ cls := "java/lang/Object", name := "<init>", desc := "()V" } : Jvm.MethodName), Jvm.Cond.code ({ cls := "java/lang/Object", name := "<init>", desc := "()V" } : Jvm.MethodName) object_method_1_code (1 : Nat) (Option.none : Option Jvm.ClassFile.FieldType), Jvm.Cond.classLink "AddressHouse" (7 : Nat) "AddressHouse$Row", Jvm.Cond.instantiable "AddressHouse$Row" (3 : Nat), Jvm.Cond.methodLink "AddressHouse" (11 : Nat) ({ cls := "AddressHouse$Row", name := "<init>", desc := "(I)V" } : Jvm.MethodName), Jvm.Cond.instanceMethod ({ cls := "AddressHouse$Row", name := "<init>", desc := "(I)V" } : Jvm.MethodName), Jvm.Cond.code ({ cls := "AddressHouse$Row", name := "<init>", desc := "(I)V" } : Jvm.MethodName) prog_9_method_1_code (2 : Nat) (Option.none : Option Jvm.ClassFile.FieldType), Jvm.Cond.methodLink "AddressHouse$Row" (3 : Nat) ({ cls := "java/lang/Object", name := "<init>", desc := "()V" } : Jvm.MethodName), Jvm.Cond.fieldLink "AddressHouse$Row" (9 : Nat) "AddressHouse$Row" "cells" "[B", Jvm.Cond.fieldLink "AddressHouse$Row" (15 : Nat) "AddressHouse$Row" "size" "I", Jvm.Cond.fieldLink "AddressHouse" (78 : Nat) "AddressHouse$Row" "size" "I", Jvm.Cond.fieldLink "AddressHouse$House" (58 : Nat) "AddressHouse$Row" "size" "I", Jvm.Cond.fieldLink "AddressHouse$Card" (59 : Nat) "AddressHouse$Row" "size" "I", Jvm.Cond.fieldLink "AddressHouse$Row" (19 : Nat) "AddressHouse$Row" "over" "Z", Jvm.Cond.fieldLink "AddressHouse" (174 : Nat) "AddressHouse$Row" "over" "Z", Jvm.Cond.laysFinal "AddressHouse$Row" "AddressHouse$Row" "cells" "[B", Jvm.Cond.lays "AddressHouse$Row" "AddressHouse$Row" "size" "I", Jvm.Cond.lays "AddressHouse$Row" "AddressHouse$Row" "over" "Z", Jvm.Cond.superclass "AddressHouse$Row" "java/lang/Object", Jvm.Cond.arrayClass Jvm.ClassFile.FieldType.byte, Jvm.Cond.constant "AddressHouse" (18 : Nat) (65536 : Int32), Jvm.Cond.classLink "AddressHouse" (22 : Nat) "AddressHouse$Wire", Jvm.Cond.instantiable "AddressHouse$Wire" (11 : Nat), Jvm.Cond.methodLink "AddressHouse" (28 : Nat) ({ cls := "AddressHouse$Wire", name := "<init>", desc := "()V" } : Jvm.MethodName), Jvm.Cond.instanceMethod ({ cls := "AddressHouse$Wire", name := "<init>", desc := "()V" } : Jvm.MethodName), Jvm.Cond.code ({ cls := "AddressHouse$Wire", name := "<init>", desc := "()V" } : Jvm.MethodName) prog_11_method_1_code (1 : Nat) (Option.none : Option Jvm.ClassFile.FieldType), Jvm.Cond.methodLink "AddressHouse$Wire" (3 : Nat) ({ cls := "java/lang/Object", name := "<init>", desc := "()V" } : Jvm.MethodName), Jvm.Cond.classLink "AddressHouse$Wire" (9 : Nat) "AddressHouse$Row", Jvm.Cond.methodLink "AddressHouse$Wire" (13 : Nat) ({ cls := "AddressHouse$Row", name := "<init>", desc := "(I)V" } : Jvm.MethodName), Jvm.Cond.fieldLink "AddressHouse$Wire" (16 : Nat) "AddressHouse$Wire" "head" "LAddressHouse$Row;", Jvm.Cond.fieldLink "AddressHouse$Wire" (20 : Nat) "AddressHouse$Wire" "load" "LAddressHouse$Row;", Jvm.Cond.fieldLink "AddressHouse" (124 : Nat) "AddressHouse$Wire" "load" "LAddressHouse$Row;", Jvm.Cond.fieldLink "AddressHouse$Wire" (23 : Nat) "AddressHouse$Wire" "from" "[I", Jvm.Cond.fieldLink "AddressHouse$Wire" (27 : Nat) "AddressHouse$Wire" "to" "[I"]
def xw0_1 : List Cond := [Jvm.Cond.fieldLink "AddressHouse" (95 : Nat) "AddressHouse$Wire" "alive" "Z", Jvm.Cond.fieldLink "AddressHouse$Wire" (33 : Nat) "AddressHouse$Wire" "state" "I", Jvm.Cond.laysFinal "AddressHouse$Wire" "AddressHouse$Wire" "head" "LAddressHouse$Row;", Jvm.Cond.laysFinal "AddressHouse$Wire" "AddressHouse$Wire" "load" "LAddressHouse$Row;", Jvm.Cond.laysFinal "AddressHouse$Wire" "AddressHouse$Wire" "from" "[I", Jvm.Cond.laysFinal "AddressHouse$Wire" "AddressHouse$Wire" "to" "[I", Jvm.Cond.lays "AddressHouse$Wire" "AddressHouse$Wire" "alive" "Z", Jvm.Cond.lays "AddressHouse$Wire" "AddressHouse$Wire" "methodTo" "I", Jvm.Cond.lays "AddressHouse$Wire" "AddressHouse$Wire" "targetTo" "I", Jvm.Cond.lays "AddressHouse$Wire" "AddressHouse$Wire" "state" "I", Jvm.Cond.lays "AddressHouse$Wire" "AddressHouse$Wire" "need" "I", Jvm.Cond.lays "AddressHouse$Wire" "AddressHouse$Wire" "digits" "I", Jvm.Cond.lays "AddressHouse$Wire" "AddressHouse$Wire" "twice" "Z", Jvm.Cond.superclass "AddressHouse$Wire" "java/lang/Object", Jvm.Cond.arrayClass Jvm.ClassFile.FieldType.int, Jvm.Cond.classLink "AddressHouse" (29 : Nat) "AddressHouse$House", Jvm.Cond.instantiable "AddressHouse$House" (17 : Nat), Jvm.Cond.methodLink "AddressHouse" (31 : Nat) ({ cls := "AddressHouse$House", name := "<init>", desc := "()V" } : Jvm.MethodName), Jvm.Cond.instanceMethod ({ cls := "AddressHouse$House", name := "<init>", desc := "()V" } : Jvm.MethodName), Jvm.Cond.code ({ cls := "AddressHouse$House", name := "<init>", desc := "()V" } : Jvm.MethodName) prog_6_method_1_code (2 : Nat) (Option.none : Option Jvm.ClassFile.FieldType), Jvm.Cond.methodLink "AddressHouse$House" (3 : Nat) ({ cls := "java/lang/Object", name := "<init>", desc := "()V" } : Jvm.MethodName), Jvm.Cond.classLink "AddressHouse$House" (11 : Nat) "AddressHouse$Row", Jvm.Cond.methodLink "AddressHouse$House" (21 : Nat) ({ cls := "AddressHouse$Row", name := "<init>", desc := "(I)V" } : Jvm.MethodName), Jvm.Cond.classLink "AddressHouse$House" (24 : Nat) "AddressHouse$Book", Jvm.Cond.instantiable "AddressHouse$Book" (13 : Nat), Jvm.Cond.methodLink "AddressHouse$House" (30 : Nat) ({ cls := "AddressHouse$Book", name := "<init>", desc := "()V" } : Jvm.MethodName), Jvm.Cond.instanceMethod ({ cls := "AddressHouse$Book", name := "<init>", desc := "()V" } : Jvm.MethodName), Jvm.Cond.code ({ cls := "AddressHouse$Book", name := "<init>", desc := "()V" } : Jvm.MethodName) prog_2_method_1_code (2 : Nat) (Option.none : Option Jvm.ClassFile.FieldType), Jvm.Cond.methodLink "AddressHouse$Book" (3 : Nat) ({ cls := "java/lang/Object", name := "<init>", desc := "()V" } : Jvm.MethodName), Jvm.Cond.classLink "AddressHouse$Book" (15 : Nat) "AddressHouse$Row", Jvm.Cond.methodLink "AddressHouse$Book" (17 : Nat) ({ cls := "AddressHouse$Row", name := "<init>", desc := "(I)V" } : Jvm.MethodName), Jvm.Cond.fieldLink "AddressHouse$Book" (9 : Nat) "AddressHouse$Book" "owner" "I", Jvm.Cond.fieldLink "AddressHouse$House" (162 : Nat) "AddressHouse$Book" "owner" "I", Jvm.Cond.fieldLink "AddressHouse$Book" (20 : Nat) "AddressHouse$Book" "name" "LAddressHouse$Row;", Jvm.Cond.fieldLink "AddressHouse$Book" (24 : Nat) "AddressHouse$Book" "title" "LAddressHouse$Row;", Jvm.Cond.fieldLink "AddressHouse$Book" (27 : Nat) "AddressHouse$Book" "note" "LAddressHouse$Row;", Jvm.Cond.fieldLink "AddressHouse$Book" (32 : Nat) "AddressHouse$Book" "readers" "[I", Jvm.Cond.fieldLink "AddressHouse$Book" (36 : Nat) "AddressHouse$Book" "goneNames" "[LAddressHouse$Row;", Jvm.Cond.fieldLink "AddressHouse$Book" (40 : Nat) "AddressHouse$Book" "goneChanges" "[I", Jvm.Cond.lays "AddressHouse$Book" "AddressHouse$Book" "owner" "I", Jvm.Cond.lays "AddressHouse$Book" "AddressHouse$Book" "made" "I", Jvm.Cond.laysFinal "AddressHouse$Book" "AddressHouse$Book" "name" "LAddressHouse$Row;", Jvm.Cond.laysFinal "AddressHouse$Book" "AddressHouse$Book" "title" "LAddressHouse$Row;", Jvm.Cond.lays "AddressHouse$Book" "AddressHouse$Book" "hasTitle" "Z", Jvm.Cond.laysFinal "AddressHouse$Book" "AddressHouse$Book" "note" "LAddressHouse$Row;", Jvm.Cond.lays "AddressHouse$Book" "AddressHouse$Book" "hasNote" "Z", Jvm.Cond.laysFinal "AddressHouse$Book" "AddressHouse$Book" "readers" "[I", Jvm.Cond.lays "AddressHouse$Book" "AddressHouse$Book" "readerCount" "I", Jvm.Cond.laysFinal "AddressHouse$Book" "AddressHouse$Book" "goneNames" "[LAddressHouse$Row;", Jvm.Cond.laysFinal "AddressHouse$Book" "AddressHouse$Book" "goneChanges" "[I"]
def xw0_2 : List Cond := [Jvm.Cond.lays "AddressHouse$Book" "AddressHouse$Book" "goneCount" "I", Jvm.Cond.lays "AddressHouse$Book" "AddressHouse$Book" "forgotten" "I", Jvm.Cond.superclass "AddressHouse$Book" "java/lang/Object", Jvm.Cond.classLink "AddressHouse$House" (31 : Nat) "AddressHouse$Item", Jvm.Cond.instantiable "AddressHouse$Item" (5 : Nat), Jvm.Cond.methodLink "AddressHouse$House" (37 : Nat) ({ cls := "AddressHouse$Item", name := "<init>", desc := "()V" } : Jvm.MethodName), Jvm.Cond.instanceMethod ({ cls := "AddressHouse$Item", name := "<init>", desc := "()V" } : Jvm.MethodName), Jvm.Cond.code ({ cls := "AddressHouse$Item", name := "<init>", desc := "()V" } : Jvm.MethodName) prog_7_method_1_code (1 : Nat) (Option.none : Option Jvm.ClassFile.FieldType), Jvm.Cond.methodLink "AddressHouse$Item" (3 : Nat) ({ cls := "java/lang/Object", name := "<init>", desc := "()V" } : Jvm.MethodName), Jvm.Cond.classLink "AddressHouse$Item" (15 : Nat) "AddressHouse$Row", Jvm.Cond.methodLink "AddressHouse$Item" (17 : Nat) ({ cls := "AddressHouse$Row", name := "<init>", desc := "(I)V" } : Jvm.MethodName), Jvm.Cond.fieldLink "AddressHouse$Item" (9 : Nat) "AddressHouse$Item" "book" "I", Jvm.Cond.fieldLink "AddressHouse$House" (166 : Nat) "AddressHouse$Item" "book" "I", Jvm.Cond.fieldLink "AddressHouse$Item" (20 : Nat) "AddressHouse$Item" "name" "LAddressHouse$Row;", Jvm.Cond.fieldLink "AddressHouse$Item" (26 : Nat) "AddressHouse$Item" "text" "LAddressHouse$Row;", Jvm.Cond.fieldLink "AddressHouse$Item" (29 : Nat) "AddressHouse$Item" "uid" "LAddressHouse$Row;", Jvm.Cond.lays "AddressHouse$Item" "AddressHouse$Item" "book" "I", Jvm.Cond.lays "AddressHouse$Item" "AddressHouse$Item" "change" "I", Jvm.Cond.laysFinal "AddressHouse$Item" "AddressHouse$Item" "name" "LAddressHouse$Row;", Jvm.Cond.laysFinal "AddressHouse$Item" "AddressHouse$Item" "text" "LAddressHouse$Row;", Jvm.Cond.laysFinal "AddressHouse$Item" "AddressHouse$Item" "uid" "LAddressHouse$Row;", Jvm.Cond.superclass "AddressHouse$Item" "java/lang/Object", Jvm.Cond.fieldLink "AddressHouse$House" (13 : Nat) "AddressHouse$House" "users" "[LAddressHouse$Row;", Jvm.Cond.fieldLink "AddressHouse$House" (17 : Nat) "AddressHouse$House" "nameTo" "[I", Jvm.Cond.fieldLink "AddressHouse$House" (66 : Nat) "AddressHouse$House" "userCount" "I", Jvm.Cond.fieldLink "AddressHouse$House" (26 : Nat) "AddressHouse$House" "books" "[LAddressHouse$Book;", Jvm.Cond.fieldLink "AddressHouse$House" (33 : Nat) "AddressHouse$House" "items" "[LAddressHouse$Item;", Jvm.Cond.fieldLink "AddressHouse" (202 : Nat) "AddressHouse$House" "changes" "I", Jvm.Cond.fieldLink "AddressHouse$House" (38 : Nat) "AddressHouse$House" "order" "[I", Jvm.Cond.fieldLink "AddressHouse$House" (41 : Nat) "AddressHouse$House" "secret" "LAddressHouse$Row;", Jvm.Cond.fieldLink "AddressHouse$House" (45 : Nat) "AddressHouse$House" "noBook" "LAddressHouse$Book;", Jvm.Cond.fieldLink "AddressHouse$House" (49 : Nat) "AddressHouse$House" "noItem" "LAddressHouse$Item;", Jvm.Cond.fieldLink "AddressHouse$House" (55 : Nat) "AddressHouse$House" "path" "LAddressHouse$Row;", Jvm.Cond.laysFinal "AddressHouse$House" "AddressHouse$House" "users" "[LAddressHouse$Row;", Jvm.Cond.laysFinal "AddressHouse$House" "AddressHouse$House" "nameTo" "[I", Jvm.Cond.lays "AddressHouse$House" "AddressHouse$House" "userCount" "I", Jvm.Cond.laysFinal "AddressHouse$House" "AddressHouse$House" "books" "[LAddressHouse$Book;", Jvm.Cond.laysFinal "AddressHouse$House" "AddressHouse$House" "items" "[LAddressHouse$Item;", Jvm.Cond.lays "AddressHouse$House" "AddressHouse$House" "changes" "I", Jvm.Cond.laysFinal "AddressHouse$House" "AddressHouse$House" "order" "[I", Jvm.Cond.laysFinal "AddressHouse$House" "AddressHouse$House" "secret" "LAddressHouse$Row;", Jvm.Cond.laysFinal "AddressHouse$House" "AddressHouse$House" "noBook" "LAddressHouse$Book;", Jvm.Cond.laysFinal "AddressHouse$House" "AddressHouse$House" "noItem" "LAddressHouse$Item;", Jvm.Cond.laysFinal "AddressHouse$House" "AddressHouse$House" "path" "LAddressHouse$Row;", Jvm.Cond.lays "AddressHouse$House" "AddressHouse$House" "kind" "I", Jvm.Cond.lays "AddressHouse$House" "AddressHouse$House" "owner" "I", Jvm.Cond.lays "AddressHouse$House" "AddressHouse$House" "book" "I", Jvm.Cond.lays "AddressHouse$House" "AddressHouse$House" "item" "I", Jvm.Cond.lays "AddressHouse$House" "AddressHouse$House" "lastFrom" "I", Jvm.Cond.lays "AddressHouse$House" "AddressHouse$House" "lastTo" "I"]
def xw0_3 : List Cond := [Jvm.Cond.superclass "AddressHouse$House" "java/lang/Object", Jvm.Cond.classLink "AddressHouse" (36 : Nat) "AddressHouse$Card", Jvm.Cond.instantiable "AddressHouse$Card" (10 : Nat), Jvm.Cond.methodLink "AddressHouse" (38 : Nat) ({ cls := "AddressHouse$Card", name := "<init>", desc := "()V" } : Jvm.MethodName), Jvm.Cond.instanceMethod ({ cls := "AddressHouse$Card", name := "<init>", desc := "()V" } : Jvm.MethodName), Jvm.Cond.code ({ cls := "AddressHouse$Card", name := "<init>", desc := "()V" } : Jvm.MethodName) prog_3_method_1_code (1 : Nat) (Option.none : Option Jvm.ClassFile.FieldType), Jvm.Cond.methodLink "AddressHouse$Card" (3 : Nat) ({ cls := "java/lang/Object", name := "<init>", desc := "()V" } : Jvm.MethodName), Jvm.Cond.classLink "AddressHouse$Card" (9 : Nat) "AddressHouse$Row", Jvm.Cond.methodLink "AddressHouse$Card" (11 : Nat) ({ cls := "AddressHouse$Row", name := "<init>", desc := "(I)V" } : Jvm.MethodName), Jvm.Cond.classLink "AddressHouse$Card" (20 : Nat) "[[I", Jvm.Cond.fieldLink "AddressHouse$Card" (14 : Nat) "AddressHouse$Card" "text" "LAddressHouse$Row;", Jvm.Cond.fieldLink "AddressHouse$Card" (42 : Nat) "AddressHouse$Card" "version" "I", Jvm.Cond.fieldLink "AddressHouse$Card" (22 : Nat) "AddressHouse$Card" "properties" "[[I", Jvm.Cond.fieldLink "AddressHouse$Card" (46 : Nat) "AddressHouse$Card" "size" "I", Jvm.Cond.fieldLink "AddressHouse$Card" (25 : Nat) "AddressHouse$Card" "parameters" "[[I", Jvm.Cond.fieldLink "AddressHouse$Card" (49 : Nat) "AddressHouse$Card" "parameterCount" "I", Jvm.Cond.fieldLink "AddressHouse$Card" (28 : Nat) "AddressHouse$Card" "valueFrom" "[I", Jvm.Cond.fieldLink "AddressHouse$Card" (32 : Nat) "AddressHouse$Card" "valueTo" "[I", Jvm.Cond.fieldLink "AddressHouse$Card" (52 : Nat) "AddressHouse$Card" "valueCount" "I", Jvm.Cond.fieldLink "AddressHouse$Card" (35 : Nat) "AddressHouse$Card" "tally" "[I", Jvm.Cond.laysFinal "AddressHouse$Card" "AddressHouse$Card" "text" "LAddressHouse$Row;", Jvm.Cond.lays "AddressHouse$Card" "AddressHouse$Card" "version" "I", Jvm.Cond.laysFinal "AddressHouse$Card" "AddressHouse$Card" "properties" "[[I", Jvm.Cond.lays "AddressHouse$Card" "AddressHouse$Card" "size" "I", Jvm.Cond.laysFinal "AddressHouse$Card" "AddressHouse$Card" "parameters" "[[I", Jvm.Cond.lays "AddressHouse$Card" "AddressHouse$Card" "parameterCount" "I", Jvm.Cond.laysFinal "AddressHouse$Card" "AddressHouse$Card" "valueFrom" "[I", Jvm.Cond.laysFinal "AddressHouse$Card" "AddressHouse$Card" "valueTo" "[I", Jvm.Cond.lays "AddressHouse$Card" "AddressHouse$Card" "valueCount" "I", Jvm.Cond.laysFinal "AddressHouse$Card" "AddressHouse$Card" "tally" "[I", Jvm.Cond.superclass "AddressHouse$Card" "java/lang/Object", Jvm.Cond.classLink "AddressHouse" (43 : Nat) "AddressHouse$Xml", Jvm.Cond.instantiable "AddressHouse$Xml" (17 : Nat), Jvm.Cond.methodLink "AddressHouse" (45 : Nat) ({ cls := "AddressHouse$Xml", name := "<init>", desc := "()V" } : Jvm.MethodName), Jvm.Cond.instanceMethod ({ cls := "AddressHouse$Xml", name := "<init>", desc := "()V" } : Jvm.MethodName), Jvm.Cond.code ({ cls := "AddressHouse$Xml", name := "<init>", desc := "()V" } : Jvm.MethodName) prog_12_method_1_code (1 : Nat) (Option.none : Option Jvm.ClassFile.FieldType), Jvm.Cond.methodLink "AddressHouse$Xml" (3 : Nat) ({ cls := "java/lang/Object", name := "<init>", desc := "()V" } : Jvm.MethodName), Jvm.Cond.classLink "AddressHouse$Xml" (11 : Nat) "[[I", Jvm.Cond.classLink "AddressHouse$Xml" (21 : Nat) "AddressHouse$Row", Jvm.Cond.methodLink "AddressHouse$Xml" (23 : Nat) ({ cls := "AddressHouse$Row", name := "<init>", desc := "(I)V" } : Jvm.MethodName), Jvm.Cond.fieldLink "AddressHouse$Xml" (13 : Nat) "AddressHouse$Xml" "elements" "[[I", Jvm.Cond.fieldLink "AddressHouse$Xml" (18 : Nat) "AddressHouse$Xml" "attributes" "[[I", Jvm.Cond.fieldLink "AddressHouse$Xml" (26 : Nat) "AddressHouse$Xml" "values" "LAddressHouse$Row;", Jvm.Cond.fieldLink "AddressHouse$Xml" (30 : Nat) "AddressHouse$Xml" "spaces" "[[I", Jvm.Cond.fieldLink "AddressHouse$Xml" (33 : Nat) "AddressHouse$Xml" "bindings" "[[I", Jvm.Cond.fieldLink "AddressHouse$Xml" (36 : Nat) "AddressHouse$Xml" "marks" "[I", Jvm.Cond.fieldLink "AddressHouse$Xml" (40 : Nat) "AddressHouse$Xml" "stack" "[I", Jvm.Cond.fieldLink "AddressHouse$Xml" (43 : Nat) "AddressHouse$Xml" "loose" "LAddressHouse$Row;", Jvm.Cond.fieldLink "AddressHouse$Xml" (46 : Nat) "AddressHouse$Xml" "owners" "[I", Jvm.Cond.fieldLink "AddressHouse$Xml" (49 : Nat) "AddressHouse$Xml" "texts" "LAddressHouse$Row;"]
def xw0_4 : List Cond := [Jvm.Cond.fieldLink "AddressHouse$Xml" (52 : Nat) "AddressHouse$Xml" "source" "LAddressHouse$Row;", Jvm.Cond.laysFinal "AddressHouse$Xml" "AddressHouse$Xml" "elements" "[[I", Jvm.Cond.lays "AddressHouse$Xml" "AddressHouse$Xml" "size" "I", Jvm.Cond.laysFinal "AddressHouse$Xml" "AddressHouse$Xml" "attributes" "[[I", Jvm.Cond.lays "AddressHouse$Xml" "AddressHouse$Xml" "attributeCount" "I", Jvm.Cond.laysFinal "AddressHouse$Xml" "AddressHouse$Xml" "values" "LAddressHouse$Row;", Jvm.Cond.laysFinal "AddressHouse$Xml" "AddressHouse$Xml" "spaces" "[[I", Jvm.Cond.lays "AddressHouse$Xml" "AddressHouse$Xml" "spaceCount" "I", Jvm.Cond.laysFinal "AddressHouse$Xml" "AddressHouse$Xml" "bindings" "[[I", Jvm.Cond.lays "AddressHouse$Xml" "AddressHouse$Xml" "bindingCount" "I", Jvm.Cond.laysFinal "AddressHouse$Xml" "AddressHouse$Xml" "marks" "[I", Jvm.Cond.laysFinal "AddressHouse$Xml" "AddressHouse$Xml" "stack" "[I", Jvm.Cond.lays "AddressHouse$Xml" "AddressHouse$Xml" "depth" "I", Jvm.Cond.laysFinal "AddressHouse$Xml" "AddressHouse$Xml" "loose" "LAddressHouse$Row;", Jvm.Cond.laysFinal "AddressHouse$Xml" "AddressHouse$Xml" "owners" "[I", Jvm.Cond.laysFinal "AddressHouse$Xml" "AddressHouse$Xml" "texts" "LAddressHouse$Row;", Jvm.Cond.lays "AddressHouse$Xml" "AddressHouse$Xml" "source" "LAddressHouse$Row;", Jvm.Cond.lays "AddressHouse$Xml" "AddressHouse$Xml" "pos" "I", Jvm.Cond.superclass "AddressHouse$Xml" "java/lang/Object", Jvm.Cond.classLink "AddressHouse" (50 : Nat) "AddressHouse$Scribe", Jvm.Cond.instantiable "AddressHouse$Scribe" (9 : Nat), Jvm.Cond.methodLink "AddressHouse" (52 : Nat) ({ cls := "AddressHouse$Scribe", name := "<init>", desc := "(LAddressHouse$Card;LAddressHouse$Xml;)V" } : Jvm.MethodName), Jvm.Cond.instanceMethod ({ cls := "AddressHouse$Scribe", name := "<init>", desc := "(LAddressHouse$Card;LAddressHouse$Xml;)V" } : Jvm.MethodName), Jvm.Cond.code ({ cls := "AddressHouse$Scribe", name := "<init>", desc := "(LAddressHouse$Card;LAddressHouse$Xml;)V" } : Jvm.MethodName) prog_10_method_1_code (3 : Nat) (Option.none : Option Jvm.ClassFile.FieldType), Jvm.Cond.methodLink "AddressHouse$Scribe" (3 : Nat) ({ cls := "java/lang/Object", name := "<init>", desc := "()V" } : Jvm.MethodName), Jvm.Cond.classLink "AddressHouse$Scribe" (19 : Nat) "AddressHouse$Row", Jvm.Cond.methodLink "AddressHouse$Scribe" (21 : Nat) ({ cls := "AddressHouse$Row", name := "<init>", desc := "(I)V" } : Jvm.MethodName), Jvm.Cond.fieldLink "AddressHouse$Scribe" (9 : Nat) "AddressHouse$Scribe" "card" "LAddressHouse$Card;", Jvm.Cond.fieldLink "AddressHouse$Scribe" (15 : Nat) "AddressHouse$Scribe" "xml" "LAddressHouse$Xml;", Jvm.Cond.fieldLink "AddressHouse$Scribe" (24 : Nat) "AddressHouse$Scribe" "line" "LAddressHouse$Row;", Jvm.Cond.fieldLink "AddressHouse$Scribe" (28 : Nat) "AddressHouse$Scribe" "part" "LAddressHouse$Row;", Jvm.Cond.fieldLink "AddressHouse$Scribe" (31 : Nat) "AddressHouse$Scribe" "picker" "I", Jvm.Cond.laysFinal "AddressHouse$Scribe" "AddressHouse$Scribe" "card" "LAddressHouse$Card;", Jvm.Cond.laysFinal "AddressHouse$Scribe" "AddressHouse$Scribe" "xml" "LAddressHouse$Xml;", Jvm.Cond.laysFinal "AddressHouse$Scribe" "AddressHouse$Scribe" "line" "LAddressHouse$Row;", Jvm.Cond.laysFinal "AddressHouse$Scribe" "AddressHouse$Scribe" "part" "LAddressHouse$Row;", Jvm.Cond.lays "AddressHouse$Scribe" "AddressHouse$Scribe" "page" "LAddressHouse$Row;", Jvm.Cond.lays "AddressHouse$Scribe" "AddressHouse$Scribe" "picker" "I", Jvm.Cond.lays "AddressHouse$Scribe" "AddressHouse$Scribe" "choosy" "Z", Jvm.Cond.lays "AddressHouse$Scribe" "AddressHouse$Scribe" "nameEnd" "I", Jvm.Cond.lays "AddressHouse$Scribe" "AddressHouse$Scribe" "valueStart" "I", Jvm.Cond.superclass "AddressHouse$Scribe" "java/lang/Object", Jvm.Cond.classLink "AddressHouse" (59 : Nat) "AddressHouse$Listing", Jvm.Cond.instantiable "AddressHouse$Listing" (16 : Nat), Jvm.Cond.constant "AddressHouse" (61 : Nat) (60100 : Int32), Jvm.Cond.methodLink "AddressHouse" (62 : Nat) ({ cls := "AddressHouse$Listing", name := "<init>", desc := "(LAddressHouse$House;LAddressHouse$Xml;LAddressHouse$Row;)V" } : Jvm.MethodName), Jvm.Cond.instanceMethod ({ cls := "AddressHouse$Listing", name := "<init>", desc := "(LAddressHouse$House;LAddressHouse$Xml;LAddressHouse$Row;)V" } : Jvm.MethodName), Jvm.Cond.code ({ cls := "AddressHouse$Listing", name := "<init>", desc := "(LAddressHouse$House;LAddressHouse$Xml;LAddressHouse$Row;)V" } : Jvm.MethodName) prog_8_method_1_code (4 : Nat) (Option.none : Option Jvm.ClassFile.FieldType), Jvm.Cond.methodLink "AddressHouse$Listing" (3 : Nat) ({ cls := "java/lang/Object", name := "<init>", desc := "()V" } : Jvm.MethodName), Jvm.Cond.classLink "AddressHouse$Listing" (23 : Nat) "AddressHouse$Row"]
def xw0_5 : List Cond := [Jvm.Cond.methodLink "AddressHouse$Listing" (27 : Nat) ({ cls := "AddressHouse$Row", name := "<init>", desc := "(I)V" } : Jvm.MethodName), Jvm.Cond.fieldLink "AddressHouse$Listing" (19 : Nat) "AddressHouse$Listing" "body" "LAddressHouse$Row;", Jvm.Cond.fieldLink "AddressHouse" (171 : Nat) "AddressHouse$Listing" "body" "LAddressHouse$Row;", Jvm.Cond.fieldLink "AddressHouse$Listing" (30 : Nat) "AddressHouse$Listing" "data" "LAddressHouse$Row;", Jvm.Cond.fieldLink "AddressHouse" (180 : Nat) "AddressHouse$Listing" "data" "LAddressHouse$Row;", Jvm.Cond.fieldLink "AddressHouse$Listing" (33 : Nat) "AddressHouse$Listing" "asked" "[I", Jvm.Cond.fieldLink "AddressHouse$Listing" (37 : Nat) "AddressHouse$Listing" "codes" "[I", Jvm.Cond.fieldLink "AddressHouse" (146 : Nat) "AddressHouse$Listing" "dataElement" "I", Jvm.Cond.fieldLink "AddressHouse$Listing" (40 : Nat) "AddressHouse$Listing" "kinds" "[I", Jvm.Cond.fieldLink "AddressHouse$Listing" (43 : Nat) "AddressHouse$Listing" "indexes" "[I", Jvm.Cond.fieldLink "AddressHouse$Listing" (46 : Nat) "AddressHouse$Listing" "statuses" "[I", Jvm.Cond.fieldLink "AddressHouse" (168 : Nat) "AddressHouse$Listing" "entryCount" "I", Jvm.Cond.fieldLink "AddressHouse$Listing" (9 : Nat) "AddressHouse$Listing" "house" "LAddressHouse$House;", Jvm.Cond.fieldLink "AddressHouse$Listing" (15 : Nat) "AddressHouse$Listing" "xml" "LAddressHouse$Xml;", Jvm.Cond.fieldLink "AddressHouse$Listing" (51 : Nat) "AddressHouse$Listing" "name" "LAddressHouse$Row;", Jvm.Cond.laysFinal "AddressHouse$Listing" "AddressHouse$Listing" "body" "LAddressHouse$Row;", Jvm.Cond.laysFinal "AddressHouse$Listing" "AddressHouse$Listing" "data" "LAddressHouse$Row;", Jvm.Cond.lays "AddressHouse$Listing" "AddressHouse$Listing" "user" "I", Jvm.Cond.lays "AddressHouse$Listing" "AddressHouse$Listing" "book" "I", Jvm.Cond.lays "AddressHouse$Listing" "AddressHouse$Listing" "mode" "I", Jvm.Cond.laysFinal "AddressHouse$Listing" "AddressHouse$Listing" "asked" "[I", Jvm.Cond.laysFinal "AddressHouse$Listing" "AddressHouse$Listing" "codes" "[I", Jvm.Cond.lays "AddressHouse$Listing" "AddressHouse$Listing" "askedCount" "I", Jvm.Cond.lays "AddressHouse$Listing" "AddressHouse$Listing" "dataElement" "I", Jvm.Cond.laysFinal "AddressHouse$Listing" "AddressHouse$Listing" "kinds" "[I", Jvm.Cond.laysFinal "AddressHouse$Listing" "AddressHouse$Listing" "indexes" "[I", Jvm.Cond.laysFinal "AddressHouse$Listing" "AddressHouse$Listing" "statuses" "[I", Jvm.Cond.lays "AddressHouse$Listing" "AddressHouse$Listing" "entryCount" "I", Jvm.Cond.laysFinal "AddressHouse$Listing" "AddressHouse$Listing" "house" "LAddressHouse$House;", Jvm.Cond.laysFinal "AddressHouse$Listing" "AddressHouse$Listing" "xml" "LAddressHouse$Xml;", Jvm.Cond.laysFinal "AddressHouse$Listing" "AddressHouse$Listing" "name" "LAddressHouse$Row;", Jvm.Cond.superclass "AddressHouse$Listing" "java/lang/Object", Jvm.Cond.classLink "AddressHouse" (69 : Nat) "AddressHouse$Clerk", Jvm.Cond.instantiable "AddressHouse$Clerk" (18 : Nat), Jvm.Cond.methodLink "AddressHouse" (71 : Nat) ({ cls := "AddressHouse$Clerk", name := "<init>", desc := "(LAddressHouse$House;LAddressHouse$Listing;LAddressHouse$Card;LAddressHouse$Xml;)V" } : Jvm.MethodName), Jvm.Cond.instanceMethod ({ cls := "AddressHouse$Clerk", name := "<init>", desc := "(LAddressHouse$House;LAddressHouse$Listing;LAddressHouse$Card;LAddressHouse$Xml;)V" } : Jvm.MethodName), Jvm.Cond.code ({ cls := "AddressHouse$Clerk", name := "<init>", desc := "(LAddressHouse$House;LAddressHouse$Listing;LAddressHouse$Card;LAddressHouse$Xml;)V" } : Jvm.MethodName) prog_4_method_1_code (5 : Nat) (Option.none : Option Jvm.ClassFile.FieldType), Jvm.Cond.methodLink "AddressHouse$Clerk" (5 : Nat) ({ cls := "java/lang/Object", name := "<init>", desc := "()V" } : Jvm.MethodName), Jvm.Cond.classLink "AddressHouse$Clerk" (27 : Nat) "AddressHouse$Filter", Jvm.Cond.instantiable "AddressHouse$Filter" (9 : Nat), Jvm.Cond.methodLink "AddressHouse$Clerk" (29 : Nat) ({ cls := "AddressHouse$Filter", name := "<init>", desc := "(LAddressHouse$Xml;LAddressHouse$Card;)V" } : Jvm.MethodName), Jvm.Cond.instanceMethod ({ cls := "AddressHouse$Filter", name := "<init>", desc := "(LAddressHouse$Xml;LAddressHouse$Card;)V" } : Jvm.MethodName), Jvm.Cond.code ({ cls := "AddressHouse$Filter", name := "<init>", desc := "(LAddressHouse$Xml;LAddressHouse$Card;)V" } : Jvm.MethodName) prog_5_method_1_code (3 : Nat) (Option.none : Option Jvm.ClassFile.FieldType), Jvm.Cond.methodLink "AddressHouse$Filter" (3 : Nat) ({ cls := "java/lang/Object", name := "<init>", desc := "()V" } : Jvm.MethodName), Jvm.Cond.classLink "AddressHouse$Filter" (21 : Nat) "[[I", Jvm.Cond.classLink "AddressHouse$Filter" (29 : Nat) "AddressHouse$Row", Jvm.Cond.methodLink "AddressHouse$Filter" (33 : Nat) ({ cls := "AddressHouse$Row", name := "<init>", desc := "(I)V" } : Jvm.MethodName), Jvm.Cond.fieldLink "AddressHouse$Filter" (9 : Nat) "AddressHouse$Filter" "xml" "LAddressHouse$Xml;", Jvm.Cond.fieldLink "AddressHouse$Filter" (15 : Nat) "AddressHouse$Filter" "card" "LAddressHouse$Card;", Jvm.Cond.fieldLink "AddressHouse$Filter" (23 : Nat) "AddressHouse$Filter" "filters" "[[I"]
def xw0_6 : List Cond := [Jvm.Cond.fieldLink "AddressHouse$Filter" (26 : Nat) "AddressHouse$Filter" "tests" "[[I", Jvm.Cond.fieldLink "AddressHouse$Filter" (36 : Nat) "AddressHouse$Filter" "needles" "LAddressHouse$Row;", Jvm.Cond.fieldLink "AddressHouse$Filter" (40 : Nat) "AddressHouse$Filter" "value" "LAddressHouse$Row;", Jvm.Cond.laysFinal "AddressHouse$Filter" "AddressHouse$Filter" "xml" "LAddressHouse$Xml;", Jvm.Cond.laysFinal "AddressHouse$Filter" "AddressHouse$Filter" "card" "LAddressHouse$Card;", Jvm.Cond.laysFinal "AddressHouse$Filter" "AddressHouse$Filter" "filters" "[[I", Jvm.Cond.lays "AddressHouse$Filter" "AddressHouse$Filter" "filterCount" "I", Jvm.Cond.laysFinal "AddressHouse$Filter" "AddressHouse$Filter" "tests" "[[I", Jvm.Cond.lays "AddressHouse$Filter" "AddressHouse$Filter" "testCount" "I", Jvm.Cond.lays "AddressHouse$Filter" "AddressHouse$Filter" "all" "Z", Jvm.Cond.laysFinal "AddressHouse$Filter" "AddressHouse$Filter" "needles" "LAddressHouse$Row;", Jvm.Cond.laysFinal "AddressHouse$Filter" "AddressHouse$Filter" "value" "LAddressHouse$Row;", Jvm.Cond.superclass "AddressHouse$Filter" "java/lang/Object", Jvm.Cond.classLink "AddressHouse$Clerk" (36 : Nat) "AddressHouse$Row", Jvm.Cond.methodLink "AddressHouse$Clerk" (38 : Nat) ({ cls := "AddressHouse$Row", name := "<init>", desc := "(I)V" } : Jvm.MethodName), Jvm.Cond.fieldLink "AddressHouse" (131 : Nat) "AddressHouse$Clerk" "xmlRight" "Z", Jvm.Cond.fieldLink "AddressHouse" (162 : Nat) "AddressHouse$Clerk" "status" "I", Jvm.Cond.fieldLink "AddressHouse" (152 : Nat) "AddressHouse$Clerk" "page" "LAddressHouse$Row;", Jvm.Cond.fieldLink "AddressHouse" (155 : Nat) "AddressHouse$Clerk" "version" "I", Jvm.Cond.fieldLink "AddressHouse$Clerk" (11 : Nat) "AddressHouse$Clerk" "house" "LAddressHouse$House;", Jvm.Cond.fieldLink "AddressHouse$Clerk" (15 : Nat) "AddressHouse$Clerk" "listing" "LAddressHouse$Listing;", Jvm.Cond.fieldLink "AddressHouse$Clerk" (19 : Nat) "AddressHouse$Clerk" "card" "LAddressHouse$Card;", Jvm.Cond.fieldLink "AddressHouse$Clerk" (23 : Nat) "AddressHouse$Clerk" "xml" "LAddressHouse$Xml;", Jvm.Cond.fieldLink "AddressHouse$Clerk" (32 : Nat) "AddressHouse$Clerk" "filter" "LAddressHouse$Filter;", Jvm.Cond.fieldLink "AddressHouse$Clerk" (41 : Nat) "AddressHouse$Clerk" "told" "LAddressHouse$Row;", Jvm.Cond.fieldLink "AddressHouse$Clerk" (47 : Nat) "AddressHouse$Clerk" "plain" "LAddressHouse$Row;", Jvm.Cond.lays "AddressHouse$Clerk" "AddressHouse$Clerk" "xmlRight" "Z", Jvm.Cond.lays "AddressHouse$Clerk" "AddressHouse$Clerk" "status" "I", Jvm.Cond.lays "AddressHouse$Clerk" "AddressHouse$Clerk" "page" "LAddressHouse$Row;", Jvm.Cond.lays "AddressHouse$Clerk" "AddressHouse$Clerk" "version" "I", Jvm.Cond.laysFinal "AddressHouse$Clerk" "AddressHouse$Clerk" "house" "LAddressHouse$House;", Jvm.Cond.laysFinal "AddressHouse$Clerk" "AddressHouse$Clerk" "listing" "LAddressHouse$Listing;", Jvm.Cond.laysFinal "AddressHouse$Clerk" "AddressHouse$Clerk" "card" "LAddressHouse$Card;", Jvm.Cond.laysFinal "AddressHouse$Clerk" "AddressHouse$Clerk" "xml" "LAddressHouse$Xml;", Jvm.Cond.laysFinal "AddressHouse$Clerk" "AddressHouse$Clerk" "filter" "LAddressHouse$Filter;", Jvm.Cond.laysFinal "AddressHouse$Clerk" "AddressHouse$Clerk" "told" "LAddressHouse$Row;", Jvm.Cond.laysFinal "AddressHouse$Clerk" "AddressHouse$Clerk" "plain" "LAddressHouse$Row;", Jvm.Cond.lays "AddressHouse$Clerk" "AddressHouse$Clerk" "wire" "LAddressHouse$Wire;", Jvm.Cond.lays "AddressHouse$Clerk" "AddressHouse$Clerk" "closing" "Z", Jvm.Cond.lays "AddressHouse$Clerk" "AddressHouse$Clerk" "type" "I", Jvm.Cond.lays "AddressHouse$Clerk" "AddressHouse$Clerk" "method" "I", Jvm.Cond.lays "AddressHouse$Clerk" "AddressHouse$Clerk" "user" "I", Jvm.Cond.lays "AddressHouse$Clerk" "AddressHouse$Clerk" "querying" "Z", Jvm.Cond.lays "AddressHouse$Clerk" "AddressHouse$Clerk" "tail" "I", Jvm.Cond.superclass "AddressHouse$Clerk" "java/lang/Object", Jvm.Cond.fieldLink "AddressHouse" (14 : Nat) "AddressHouse" "tape" "LAddressHouse$Row;", Jvm.Cond.fieldLink "AddressHouse" (19 : Nat) "AddressHouse" "answers" "LAddressHouse$Row;", Jvm.Cond.fieldLink "AddressHouse" (24 : Nat) "AddressHouse" "wires" "[LAddressHouse$Wire;", Jvm.Cond.fieldLink "AddressHouse" (32 : Nat) "AddressHouse" "house" "LAddressHouse$House;", Jvm.Cond.fieldLink "AddressHouse" (39 : Nat) "AddressHouse" "card" "LAddressHouse$Card;"]
def xw0_7 : List Cond := [Jvm.Cond.fieldLink "AddressHouse" (55 : Nat) "AddressHouse" "scribe" "LAddressHouse$Scribe;", Jvm.Cond.fieldLink "AddressHouse" (46 : Nat) "AddressHouse" "xml" "LAddressHouse$Xml;", Jvm.Cond.fieldLink "AddressHouse" (65 : Nat) "AddressHouse" "listing" "LAddressHouse$Listing;", Jvm.Cond.fieldLink "AddressHouse" (74 : Nat) "AddressHouse" "clerk" "LAddressHouse$Clerk;", Jvm.Cond.laysFinal "AddressHouse" "AddressHouse" "tape" "LAddressHouse$Row;", Jvm.Cond.laysFinal "AddressHouse" "AddressHouse" "answers" "LAddressHouse$Row;", Jvm.Cond.laysFinal "AddressHouse" "AddressHouse" "wires" "[LAddressHouse$Wire;", Jvm.Cond.laysFinal "AddressHouse" "AddressHouse" "house" "LAddressHouse$House;", Jvm.Cond.laysFinal "AddressHouse" "AddressHouse" "card" "LAddressHouse$Card;", Jvm.Cond.laysFinal "AddressHouse" "AddressHouse" "scribe" "LAddressHouse$Scribe;", Jvm.Cond.laysFinal "AddressHouse" "AddressHouse" "xml" "LAddressHouse$Xml;", Jvm.Cond.laysFinal "AddressHouse" "AddressHouse" "listing" "LAddressHouse$Listing;", Jvm.Cond.laysFinal "AddressHouse" "AddressHouse" "clerk" "LAddressHouse$Clerk;", Jvm.Cond.superclass "AddressHouse" "java/lang/Object", Jvm.Cond.instanceMethod ({ cls := "AddressHouse", name := "feed", desc := "(IIIII)Z" } : Jvm.MethodName), Jvm.Cond.selects "AddressHouse" ({ cls := "AddressHouse", name := "feed", desc := "(IIIII)Z" } : Jvm.MethodName) ({ cls := "AddressHouse", name := "feed", desc := "(IIIII)Z" } : Jvm.MethodName), Jvm.Cond.code ({ cls := "AddressHouse", name := "feed", desc := "(IIIII)Z" } : Jvm.MethodName) prog_1_method_2_code (6 : Nat) (Option.some Jvm.ClassFile.FieldType.boolean), Jvm.Cond.methodLink "AddressHouse" (82 : Nat) ({ cls := "AddressHouse$Row", name := "four", desc := "(I)V" } : Jvm.MethodName), Jvm.Cond.instanceMethod ({ cls := "AddressHouse$Row", name := "four", desc := "(I)V" } : Jvm.MethodName), Jvm.Cond.selects "AddressHouse$Row" ({ cls := "AddressHouse$Row", name := "four", desc := "(I)V" } : Jvm.MethodName) ({ cls := "AddressHouse$Row", name := "four", desc := "(I)V" } : Jvm.MethodName), Jvm.Cond.code ({ cls := "AddressHouse$Row", name := "four", desc := "(I)V" } : Jvm.MethodName) prog_9_method_6_code (2 : Nat) (Option.none : Option Jvm.ClassFile.FieldType), Jvm.Cond.methodLink "AddressHouse$Row" (23 : Nat) ({ cls := "AddressHouse$Row", name := "put", desc := "(I)V" } : Jvm.MethodName), Jvm.Cond.instanceMethod ({ cls := "AddressHouse$Row", name := "put", desc := "(I)V" } : Jvm.MethodName), Jvm.Cond.selects "AddressHouse$Row" ({ cls := "AddressHouse$Row", name := "put", desc := "(I)V" } : Jvm.MethodName) ({ cls := "AddressHouse$Row", name := "put", desc := "(I)V" } : Jvm.MethodName), Jvm.Cond.code ({ cls := "AddressHouse$Row", name := "put", desc := "(I)V" } : Jvm.MethodName) prog_9_method_5_code (2 : Nat) (Option.none : Option Jvm.ClassFile.FieldType), Jvm.Cond.instanceMethod ({ cls := "AddressHouse", name := "end", desc := "(I)Z" } : Jvm.MethodName), Jvm.Cond.selects "AddressHouse" ({ cls := "AddressHouse", name := "end", desc := "(I)Z" } : Jvm.MethodName) ({ cls := "AddressHouse", name := "end", desc := "(I)Z" } : Jvm.MethodName), Jvm.Cond.code ({ cls := "AddressHouse", name := "end", desc := "(I)Z" } : Jvm.MethodName) prog_1_method_3_code (2 : Nat) (Option.some Jvm.ClassFile.FieldType.boolean), Jvm.Cond.methodLink "AddressHouse" (85 : Nat) ({ cls := "AddressHouse$Row", name := "cutTo", desc := "(I)V" } : Jvm.MethodName), Jvm.Cond.instanceMethod ({ cls := "AddressHouse$Row", name := "cutTo", desc := "(I)V" } : Jvm.MethodName), Jvm.Cond.selects "AddressHouse$Row" ({ cls := "AddressHouse$Row", name := "cutTo", desc := "(I)V" } : Jvm.MethodName) ({ cls := "AddressHouse$Row", name := "cutTo", desc := "(I)V" } : Jvm.MethodName), Jvm.Cond.code ({ cls := "AddressHouse$Row", name := "cutTo", desc := "(I)V" } : Jvm.MethodName) prog_9_method_3_code (2 : Nat) (Option.none : Option Jvm.ClassFile.FieldType), Jvm.Cond.instanceMethod ({ cls := "AddressHouse", name := "user", desc := "()I" } : Jvm.MethodName), Jvm.Cond.selects "AddressHouse" ({ cls := "AddressHouse", name := "user", desc := "()I" } : Jvm.MethodName) ({ cls := "AddressHouse", name := "user", desc := "()I" } : Jvm.MethodName), Jvm.Cond.code ({ cls := "AddressHouse", name := "user", desc := "()I" } : Jvm.MethodName) prog_1_method_4_code (2 : Nat) (Option.some Jvm.ClassFile.FieldType.int), Jvm.Cond.methodLink "AddressHouse" (88 : Nat) ({ cls := "AddressHouse$House", name := "addUser", desc := "(LAddressHouse$Row;)I" } : Jvm.MethodName), Jvm.Cond.instanceMethod ({ cls := "AddressHouse$House", name := "addUser", desc := "(LAddressHouse$Row;)I" } : Jvm.MethodName), Jvm.Cond.selects "AddressHouse$House" ({ cls := "AddressHouse$House", name := "addUser", desc := "(LAddressHouse$Row;)I" } : Jvm.MethodName) ({ cls := "AddressHouse$House", name := "addUser", desc := "(LAddressHouse$Row;)I" } : Jvm.MethodName), Jvm.Cond.code ({ cls := "AddressHouse$House", name := "addUser", desc := "(LAddressHouse$Row;)I" } : Jvm.MethodName) prog_6_method_2_code (5 : Nat) (Option.some Jvm.ClassFile.FieldType.int), Jvm.Cond.methodLink "AddressHouse$House" (62 : Nat) ({ cls := "AddressHouse$Row", name := "at", desc := "(I)I" } : Jvm.MethodName), Jvm.Cond.instanceMethod ({ cls := "AddressHouse$Row", name := "at", desc := "(I)I" } : Jvm.MethodName), Jvm.Cond.selects "AddressHouse$Row" ({ cls := "AddressHouse$Row", name := "at", desc := "(I)I" } : Jvm.MethodName) ({ cls := "AddressHouse$Row", name := "at", desc := "(I)I" } : Jvm.MethodName), Jvm.Cond.code ({ cls := "AddressHouse$Row", name := "at", desc := "(I)I" } : Jvm.MethodName) prog_9_method_4_code (2 : Nat) (Option.some Jvm.ClassFile.FieldType.int), Jvm.Cond.methodLink "AddressHouse$House" (69 : Nat) ({ cls := "AddressHouse$House", name := "userNamed", desc := "(LAddressHouse$Row;II)I" } : Jvm.MethodName), Jvm.Cond.methodLink "AddressHouse$House" (73 : Nat) ({ cls := "AddressHouse$Row", name := "copy", desc := "(LAddressHouse$Row;II)V" } : Jvm.MethodName), Jvm.Cond.methodLink "AddressHouse" (92 : Nat) ({ cls := "AddressHouse$Row", name := "clear", desc := "()V" } : Jvm.MethodName), Jvm.Cond.instanceMethod ({ cls := "AddressHouse$Row", name := "clear", desc := "()V" } : Jvm.MethodName), Jvm.Cond.selects "AddressHouse$Row" ({ cls := "AddressHouse$Row", name := "clear", desc := "()V" } : Jvm.MethodName) ({ cls := "AddressHouse$Row", name := "clear", desc := "()V" } : Jvm.MethodName), Jvm.Cond.code ({ cls := "AddressHouse$Row", name := "clear", desc := "()V" } : Jvm.MethodName) prog_9_method_2_code (1 : Nat) (Option.none : Option Jvm.ClassFile.FieldType), Jvm.Cond.instanceMethod ({ cls := "AddressHouse", name := "open", desc := "()I" } : Jvm.MethodName)]
def xw0_8 : List Cond := [Jvm.Cond.selects "AddressHouse" ({ cls := "AddressHouse", name := "open", desc := "()I" } : Jvm.MethodName) ({ cls := "AddressHouse", name := "open", desc := "()I" } : Jvm.MethodName), Jvm.Cond.code ({ cls := "AddressHouse", name := "open", desc := "()I" } : Jvm.MethodName) prog_1_method_5_code (2 : Nat) (Option.some Jvm.ClassFile.FieldType.int), Jvm.Cond.methodLink "AddressHouse" (99 : Nat) ({ cls := "AddressHouse$Wire", name := "next", desc := "()V" } : Jvm.MethodName), Jvm.Cond.instanceMethod ({ cls := "AddressHouse$Wire", name := "next", desc := "()V" } : Jvm.MethodName), Jvm.Cond.selects "AddressHouse$Wire" ({ cls := "AddressHouse$Wire", name := "next", desc := "()V" } : Jvm.MethodName) ({ cls := "AddressHouse$Wire", name := "next", desc := "()V" } : Jvm.MethodName), Jvm.Cond.code ({ cls := "AddressHouse$Wire", name := "next", desc := "()V" } : Jvm.MethodName) prog_11_method_2_code (1 : Nat) (Option.none : Option Jvm.ClassFile.FieldType), Jvm.Cond.methodLink "AddressHouse$Wire" (30 : Nat) ({ cls := "AddressHouse$Row", name := "clear", desc := "()V" } : Jvm.MethodName), Jvm.Cond.instanceMethod ({ cls := "AddressHouse", name := "isOpen", desc := "(I)Z" } : Jvm.MethodName), Jvm.Cond.selects "AddressHouse" ({ cls := "AddressHouse", name := "isOpen", desc := "(I)Z" } : Jvm.MethodName) ({ cls := "AddressHouse", name := "isOpen", desc := "(I)Z" } : Jvm.MethodName), Jvm.Cond.code ({ cls := "AddressHouse", name := "isOpen", desc := "(I)Z" } : Jvm.MethodName) prog_1_method_7_code (2 : Nat) (Option.some Jvm.ClassFile.FieldType.boolean), Jvm.Cond.instanceMethod ({ cls := "AddressHouse", name := "shut", desc := "(I)Z" } : Jvm.MethodName), Jvm.Cond.selects "AddressHouse" ({ cls := "AddressHouse", name := "shut", desc := "(I)Z" } : Jvm.MethodName) ({ cls := "AddressHouse", name := "shut", desc := "(I)Z" } : Jvm.MethodName), Jvm.Cond.code ({ cls := "AddressHouse", name := "shut", desc := "(I)Z" } : Jvm.MethodName) prog_1_method_8_code (2 : Nat) (Option.some Jvm.ClassFile.FieldType.boolean), Jvm.Cond.methodLink "AddressHouse" (102 : Nat) ({ cls := "AddressHouse", name := "isOpen", desc := "(I)Z" } : Jvm.MethodName), Jvm.Cond.instanceMethod ({ cls := "AddressHouse", name := "out", desc := "()I" } : Jvm.MethodName), Jvm.Cond.selects "AddressHouse" ({ cls := "AddressHouse", name := "out", desc := "()I" } : Jvm.MethodName) ({ cls := "AddressHouse", name := "out", desc := "()I" } : Jvm.MethodName), Jvm.Cond.code ({ cls := "AddressHouse", name := "out", desc := "()I" } : Jvm.MethodName) prog_1_method_9_code (1 : Nat) (Option.some Jvm.ClassFile.FieldType.int), Jvm.Cond.instanceMethod ({ cls := "AddressHouse", name := "turn", desc := "(I)I" } : Jvm.MethodName), Jvm.Cond.selects "AddressHouse" ({ cls := "AddressHouse", name := "turn", desc := "(I)I" } : Jvm.MethodName) ({ cls := "AddressHouse", name := "turn", desc := "(I)I" } : Jvm.MethodName), Jvm.Cond.code ({ cls := "AddressHouse", name := "turn", desc := "(I)I" } : Jvm.MethodName) prog_1_method_11_code (3 : Nat) (Option.some Jvm.ClassFile.FieldType.int), Jvm.Cond.methodLink "AddressHouse" (194 : Nat) ({ cls := "AddressHouse$Card", name := "read", desc := "(LAddressHouse$Row;)Z" } : Jvm.MethodName), Jvm.Cond.instanceMethod ({ cls := "AddressHouse$Card", name := "read", desc := "(LAddressHouse$Row;)Z" } : Jvm.MethodName), Jvm.Cond.selects "AddressHouse$Card" ({ cls := "AddressHouse$Card", name := "read", desc := "(LAddressHouse$Row;)Z" } : Jvm.MethodName) ({ cls := "AddressHouse$Card", name := "read", desc := "(LAddressHouse$Row;)Z" } : Jvm.MethodName), Jvm.Cond.code ({ cls := "AddressHouse$Card", name := "read", desc := "(LAddressHouse$Row;)Z" } : Jvm.MethodName) prog_3_method_2_code (7 : Nat) (Option.some Jvm.ClassFile.FieldType.boolean), Jvm.Cond.methodLink "AddressHouse$Card" (38 : Nat) ({ cls := "AddressHouse$Card", name := "unfold", desc := "(LAddressHouse$Row;)V" } : Jvm.MethodName), Jvm.Cond.instanceMethod ({ cls := "AddressHouse$Card", name := "unfold", desc := "(LAddressHouse$Row;)V" } : Jvm.MethodName), Jvm.Cond.code ({ cls := "AddressHouse$Card", name := "unfold", desc := "(LAddressHouse$Row;)V" } : Jvm.MethodName) prog_3_method_3_code (4 : Nat) (Option.none : Option Jvm.ClassFile.FieldType), Jvm.Cond.methodLink "AddressHouse$Card" (78 : Nat) ({ cls := "AddressHouse$Row", name := "clear", desc := "()V" } : Jvm.MethodName), Jvm.Cond.methodLink "AddressHouse$Card" (60 : Nat) ({ cls := "AddressHouse$Row", name := "at", desc := "(I)I" } : Jvm.MethodName), Jvm.Cond.methodLink "AddressHouse$Card" (81 : Nat) ({ cls := "AddressHouse$Row", name := "put", desc := "(I)V" } : Jvm.MethodName), Jvm.Cond.methodLink "AddressHouse$Card" (55 : Nat) ({ cls := "AddressHouse$Card", name := "isClean", desc := "()Z" } : Jvm.MethodName), Jvm.Cond.instanceMethod ({ cls := "AddressHouse$Card", name := "isClean", desc := "()Z" } : Jvm.MethodName), Jvm.Cond.code ({ cls := "AddressHouse$Card", name := "isClean", desc := "()Z" } : Jvm.MethodName) prog_3_method_4_code (3 : Nat) (Option.some Jvm.ClassFile.FieldType.boolean), Jvm.Cond.methodLink "AddressHouse$Card" (84 : Nat) ({ cls := "AddressHouse$Row", name := "codeAt", desc := "(I)I" } : Jvm.MethodName), Jvm.Cond.methodLink "AddressHouse$Card" (87 : Nat) ({ cls := "AddressHouse$Row", name := "widthOf", desc := "(I)I" } : Jvm.MethodName), Jvm.Cond.methodLink "AddressHouse$Card" (64 : Nat) ({ cls := "AddressHouse$Card", name := "property", desc := "(II)Z" } : Jvm.MethodName), Jvm.Cond.methodLink "AddressHouse$Card" (68 : Nat) ({ cls := "AddressHouse$Card", name := "isBuilt", desc := "()Z" } : Jvm.MethodName), Jvm.Cond.methodLink "AddressHouse$Card" (71 : Nat) ({ cls := "AddressHouse$Card", name := "isFrame", desc := "(III)Z" } : Jvm.MethodName), Jvm.Cond.methodLink "AddressHouse$Card" (75 : Nat) ({ cls := "AddressHouse$Card", name := "isComplete", desc := "()Z" } : Jvm.MethodName), Jvm.Cond.methodLink "AddressHouse" (149 : Nat) ({ cls := "AddressHouse$Scribe", name := "pick", desc := "(I)V" } : Jvm.MethodName), Jvm.Cond.methodLink "AddressHouse" (158 : Nat) ({ cls := "AddressHouse$Scribe", name := "write", desc := "(ILAddressHouse$Row;)V" } : Jvm.MethodName), Jvm.Cond.instanceMethod ({ cls := "AddressHouse", name := "count", desc := "(I)I" } : Jvm.MethodName), Jvm.Cond.selects "AddressHouse" ({ cls := "AddressHouse", name := "count", desc := "(I)I" } : Jvm.MethodName) ({ cls := "AddressHouse", name := "count", desc := "(I)I" } : Jvm.MethodName), Jvm.Cond.code ({ cls := "AddressHouse", name := "count", desc := "(I)I" } : Jvm.MethodName) prog_1_method_12_code (2 : Nat) (Option.some Jvm.ClassFile.FieldType.int), Jvm.Cond.methodLink "AddressHouse" (195 : Nat) ({ cls := "AddressHouse$House", name := "bookCount", desc := "()I" } : Jvm.MethodName), Jvm.Cond.instanceMethod ({ cls := "AddressHouse$House", name := "bookCount", desc := "()I" } : Jvm.MethodName), Jvm.Cond.selects "AddressHouse$House" ({ cls := "AddressHouse$House", name := "bookCount", desc := "()I" } : Jvm.MethodName) ({ cls := "AddressHouse$House", name := "bookCount", desc := "()I" } : Jvm.MethodName), Jvm.Cond.code ({ cls := "AddressHouse$House", name := "bookCount", desc := "()I" } : Jvm.MethodName) prog_6_method_14_code (3 : Nat) (Option.some Jvm.ClassFile.FieldType.int), Jvm.Cond.methodLink "AddressHouse" (199 : Nat) ({ cls := "AddressHouse$House", name := "itemCount", desc := "()I" } : Jvm.MethodName), Jvm.Cond.instanceMethod ({ cls := "AddressHouse$House", name := "itemCount", desc := "()I" } : Jvm.MethodName)]
def xw0_9 : List Cond := [Jvm.Cond.selects "AddressHouse$House" ({ cls := "AddressHouse$House", name := "itemCount", desc := "()I" } : Jvm.MethodName) ({ cls := "AddressHouse$House", name := "itemCount", desc := "()I" } : Jvm.MethodName), Jvm.Cond.code ({ cls := "AddressHouse$House", name := "itemCount", desc := "()I" } : Jvm.MethodName) prog_6_method_15_code (3 : Nat) (Option.some Jvm.ClassFile.FieldType.int), Jvm.Cond.instanceMethod ({ cls := "AddressHouse", name := "come", desc := "(I)I" } : Jvm.MethodName), Jvm.Cond.selects "AddressHouse" ({ cls := "AddressHouse", name := "come", desc := "(I)I" } : Jvm.MethodName) ({ cls := "AddressHouse", name := "come", desc := "(I)I" } : Jvm.MethodName), Jvm.Cond.code ({ cls := "AddressHouse", name := "come", desc := "(I)I" } : Jvm.MethodName) prog_1_method_6_code (8 : Nat) (Option.some Jvm.ClassFile.FieldType.int), Jvm.Cond.classLink "AddressHouse" (106 : Nat) "java/lang/IllegalStateException", Jvm.Cond.methodLink "AddressHouse" (110 : Nat) ({ cls := "java/lang/IllegalStateException", name := "<init>", desc := "(Ljava/lang/String;)V" } : Jvm.MethodName), Jvm.Cond.methodLink "AddressHouse" (113 : Nat) ({ cls := "AddressHouse$Row", name := "at", desc := "(I)I" } : Jvm.MethodName), Jvm.Cond.methodLink "AddressHouse" (117 : Nat) ({ cls := "AddressHouse$Wire", name := "take", desc := "(I)I" } : Jvm.MethodName), Jvm.Cond.methodLink "AddressHouse" (120 : Nat) ({ cls := "AddressHouse$Clerk", name := "begin", desc := "(LAddressHouse$Wire;I)I" } : Jvm.MethodName), Jvm.Cond.methodLink "AddressHouse" (127 : Nat) ({ cls := "AddressHouse$Xml", name := "read", desc := "(LAddressHouse$Row;)Z" } : Jvm.MethodName), Jvm.Cond.methodLink "AddressHouse" (134 : Nat) ({ cls := "AddressHouse$Clerk", name := "keep", desc := "()V" } : Jvm.MethodName), Jvm.Cond.methodLink "AddressHouse" (137 : Nat) ({ cls := "AddressHouse$Clerk", name := "fetch", desc := "()V" } : Jvm.MethodName), Jvm.Cond.methodLink "AddressHouse" (140 : Nat) ({ cls := "AddressHouse$Clerk", name := "act", desc := "(I)V" } : Jvm.MethodName), Jvm.Cond.methodLink "AddressHouse" (143 : Nat) ({ cls := "AddressHouse$Clerk", name := "query", desc := "()V" } : Jvm.MethodName), Jvm.Cond.methodLink "AddressHouse" (165 : Nat) ({ cls := "AddressHouse$Listing", name := "start", desc := "()V" } : Jvm.MethodName), Jvm.Cond.methodLink "AddressHouse" (177 : Nat) ({ cls := "AddressHouse$Clerk", name := "bringsCard", desc := "(I)Z" } : Jvm.MethodName), Jvm.Cond.methodLink "AddressHouse" (183 : Nat) ({ cls := "AddressHouse$Listing", name := "response", desc := "(I)V" } : Jvm.MethodName), Jvm.Cond.methodLink "AddressHouse" (186 : Nat) ({ cls := "AddressHouse$Clerk", name := "give", desc := "(LAddressHouse$Row;)I" } : Jvm.MethodName), Jvm.Cond.instanceMethod ({ cls := "AddressHouse", name := "outAt", desc := "(I)I" } : Jvm.MethodName), Jvm.Cond.selects "AddressHouse" ({ cls := "AddressHouse", name := "outAt", desc := "(I)I" } : Jvm.MethodName) ({ cls := "AddressHouse", name := "outAt", desc := "(I)I" } : Jvm.MethodName), Jvm.Cond.code ({ cls := "AddressHouse", name := "outAt", desc := "(I)I" } : Jvm.MethodName) prog_1_method_10_code (3 : Nat) (Option.some Jvm.ClassFile.FieldType.int), Jvm.Cond.classLink "AddressHouse" (189 : Nat) "java/util/NoSuchElementException", Jvm.Cond.methodLink "AddressHouse" (193 : Nat) ({ cls := "java/util/NoSuchElementException", name := "<init>", desc := "(Ljava/lang/String;)V" } : Jvm.MethodName), Jvm.Cond.arrayClass Jvm.ClassFile.FieldType.boolean, Jvm.Cond.arrayClass Jvm.ClassFile.FieldType.long, Jvm.Cond.selects "AddressHouse$Card" ({ cls := "AddressHouse$Card", name := "unfold", desc := "(LAddressHouse$Row;)V" } : Jvm.MethodName) ({ cls := "AddressHouse$Card", name := "unfold", desc := "(LAddressHouse$Row;)V" } : Jvm.MethodName), Jvm.Cond.selects "AddressHouse$Card" ({ cls := "AddressHouse$Card", name := "isClean", desc := "()Z" } : Jvm.MethodName) ({ cls := "AddressHouse$Card", name := "isClean", desc := "()Z" } : Jvm.MethodName)]
def xw0 : List Cond := xw0_0 ++ (xw0_1 ++ (xw0_2 ++ (xw0_3 ++ (xw0_4 ++ (xw0_5 ++ (xw0_6 ++ (xw0_7 ++ (xw0_8 ++ (xw0_9)))))))))
theorem k_0 : Jvm.Cond.initialized "AddressHouse" ∈ xw0 := List.mem_of_getElem? (i := 0) rfl
theorem k_1 : Jvm.Cond.initialized "AddressHouse$Row" ∈ xw0 := List.mem_of_getElem? (i := 1) rfl
theorem k_2 : Jvm.Cond.initialized "AddressHouse$Wire" ∈ xw0 := List.mem_of_getElem? (i := 2) rfl
theorem k_3 : Jvm.Cond.initialized "AddressHouse$House" ∈ xw0 := List.mem_of_getElem? (i := 3) rfl
theorem k_4 : Jvm.Cond.initialized "AddressHouse$Book" ∈ xw0 := List.mem_of_getElem? (i := 4) rfl
theorem k_5 : Jvm.Cond.initialized "AddressHouse$Item" ∈ xw0 := List.mem_of_getElem? (i := 5) rfl
theorem k_6 : Jvm.Cond.initialized "AddressHouse$Card" ∈ xw0 := List.mem_of_getElem? (i := 6) rfl
theorem k_7 : Jvm.Cond.initialized "AddressHouse$Xml" ∈ xw0 := List.mem_of_getElem? (i := 7) rfl
theorem k_8 : Jvm.Cond.initialized "AddressHouse$Scribe" ∈ xw0 := List.mem_of_getElem? (i := 8) rfl
theorem k_9 : Jvm.Cond.initialized "AddressHouse$Listing" ∈ xw0 := List.mem_of_getElem? (i := 9) rfl
theorem k_10 : Jvm.Cond.initialized "AddressHouse$Clerk" ∈ xw0 := List.mem_of_getElem? (i := 10) rfl
theorem k_11 : Jvm.Cond.initialized "AddressHouse$Filter" ∈ xw0 := List.mem_of_getElem? (i := 11) rfl
theorem k_12 : Jvm.Cond.instantiable "AddressHouse" (9 : Nat) ∈ xw0 := List.mem_of_getElem? (i := 12) rfl
theorem k_13 : Jvm.Cond.instanceMethod ({ cls := "AddressHouse", name := "<init>", desc := "()V" } : Jvm.MethodName) ∈ xw0 := List.mem_of_getElem? (i := 13) rfl
theorem k_14 : Jvm.Cond.code ({ cls := "AddressHouse", name := "<init>", desc := "()V" } : Jvm.MethodName) prog_1_method_1_code (2 : Nat) (Option.none : Option Jvm.ClassFile.FieldType) ∈ xw0 := List.mem_of_getElem? (i := 14) rfl
theorem k_15 : Jvm.Cond.methodLink "AddressHouse" (1 : Nat) ({ cls := "java/lang/Object", name := "<init>", desc := "()V" } : Jvm.MethodName) ∈ xw0 := List.mem_of_getElem? (i := 15) rfl
theorem k_16 : Jvm.Cond.instanceMethod ({ cls := "java/lang/Object", name := "<init>", desc := "()V" } : Jvm.MethodName) ∈ xw0 := List.mem_of_getElem? (i := 16) rfl
theorem k_17 : Jvm.Cond.code ({ cls := "java/lang/Object", name := "<init>", desc := "()V" } : Jvm.MethodName) object_method_1_code (1 : Nat) (Option.none : Option Jvm.ClassFile.FieldType) ∈ xw0 := List.mem_of_getElem? (i := 17) rfl
theorem k_18 : Jvm.Cond.classLink "AddressHouse" (7 : Nat) "AddressHouse$Row" ∈ xw0 := List.mem_of_getElem? (i := 18) rfl
theorem k_19 : Jvm.Cond.instantiable "AddressHouse$Row" (3 : Nat) ∈ xw0 := List.mem_of_getElem? (i := 19) rfl
theorem k_20 : Jvm.Cond.methodLink "AddressHouse" (11 : Nat) ({ cls := "AddressHouse$Row", name := "<init>", desc := "(I)V" } : Jvm.MethodName) ∈ xw0 := List.mem_of_getElem? (i := 20) rfl
theorem k_21 : Jvm.Cond.instanceMethod ({ cls := "AddressHouse$Row", name := "<init>", desc := "(I)V" } : Jvm.MethodName) ∈ xw0 := List.mem_of_getElem? (i := 21) rfl
theorem k_22 : Jvm.Cond.code ({ cls := "AddressHouse$Row", name := "<init>", desc := "(I)V" } : Jvm.MethodName) prog_9_method_1_code (2 : Nat) (Option.none : Option Jvm.ClassFile.FieldType) ∈ xw0 := List.mem_of_getElem? (i := 22) rfl
theorem k_23 : Jvm.Cond.methodLink "AddressHouse$Row" (3 : Nat) ({ cls := "java/lang/Object", name := "<init>", desc := "()V" } : Jvm.MethodName) ∈ xw0 := List.mem_of_getElem? (i := 23) rfl
theorem k_24 : Jvm.Cond.fieldLink "AddressHouse$Row" (9 : Nat) "AddressHouse$Row" "cells" "[B" ∈ xw0 := List.mem_of_getElem? (i := 24) rfl
theorem k_25 : Jvm.Cond.fieldLink "AddressHouse$Row" (15 : Nat) "AddressHouse$Row" "size" "I" ∈ xw0 := List.mem_of_getElem? (i := 25) rfl
theorem k_26 : Jvm.Cond.fieldLink "AddressHouse" (78 : Nat) "AddressHouse$Row" "size" "I" ∈ xw0 := List.mem_of_getElem? (i := 26) rfl
theorem k_27 : Jvm.Cond.fieldLink "AddressHouse$House" (58 : Nat) "AddressHouse$Row" "size" "I" ∈ xw0 := List.mem_of_getElem? (i := 27) rfl
theorem k_28 : Jvm.Cond.fieldLink "AddressHouse$Card" (59 : Nat) "AddressHouse$Row" "size" "I" ∈ xw0 := List.mem_of_getElem? (i := 28) rfl
theorem k_29 : Jvm.Cond.fieldLink "AddressHouse$Row" (19 : Nat) "AddressHouse$Row" "over" "Z" ∈ xw0 := List.mem_of_getElem? (i := 29) rfl
theorem k_30 : Jvm.Cond.fieldLink "AddressHouse" (174 : Nat) "AddressHouse$Row" "over" "Z" ∈ xw0 := List.mem_of_getElem? (i := 30) rfl
theorem k_31 : Jvm.Cond.laysFinal "AddressHouse$Row" "AddressHouse$Row" "cells" "[B" ∈ xw0 := List.mem_of_getElem? (i := 31) rfl
theorem k_32 : Jvm.Cond.lays "AddressHouse$Row" "AddressHouse$Row" "size" "I" ∈ xw0 := List.mem_of_getElem? (i := 32) rfl
theorem k_33 : Jvm.Cond.lays "AddressHouse$Row" "AddressHouse$Row" "over" "Z" ∈ xw0 := List.mem_of_getElem? (i := 33) rfl
theorem k_34 : Jvm.Cond.superclass "AddressHouse$Row" "java/lang/Object" ∈ xw0 := List.mem_of_getElem? (i := 34) rfl
theorem k_35 : Jvm.Cond.arrayClass Jvm.ClassFile.FieldType.byte ∈ xw0 := List.mem_of_getElem? (i := 35) rfl
theorem k_36 : Jvm.Cond.constant "AddressHouse" (18 : Nat) (65536 : Int32) ∈ xw0 := List.mem_of_getElem? (i := 36) rfl
theorem k_37 : Jvm.Cond.classLink "AddressHouse" (22 : Nat) "AddressHouse$Wire" ∈ xw0 := List.mem_of_getElem? (i := 37) rfl
theorem k_38 : Jvm.Cond.instantiable "AddressHouse$Wire" (11 : Nat) ∈ xw0 := List.mem_of_getElem? (i := 38) rfl
theorem k_39 : Jvm.Cond.methodLink "AddressHouse" (28 : Nat) ({ cls := "AddressHouse$Wire", name := "<init>", desc := "()V" } : Jvm.MethodName) ∈ xw0 := List.mem_of_getElem? (i := 39) rfl
theorem k_40 : Jvm.Cond.instanceMethod ({ cls := "AddressHouse$Wire", name := "<init>", desc := "()V" } : Jvm.MethodName) ∈ xw0 := List.mem_of_getElem? (i := 40) rfl
theorem k_41 : Jvm.Cond.code ({ cls := "AddressHouse$Wire", name := "<init>", desc := "()V" } : Jvm.MethodName) prog_11_method_1_code (1 : Nat) (Option.none : Option Jvm.ClassFile.FieldType) ∈ xw0 := List.mem_of_getElem? (i := 41) rfl
theorem k_42 : Jvm.Cond.methodLink "AddressHouse$Wire" (3 : Nat) ({ cls := "java/lang/Object", name := "<init>", desc := "()V" } : Jvm.MethodName) ∈ xw0 := List.mem_of_getElem? (i := 42) rfl
theorem k_43 : Jvm.Cond.classLink "AddressHouse$Wire" (9 : Nat) "AddressHouse$Row" ∈ xw0 := List.mem_of_getElem? (i := 43) rfl
theorem k_44 : Jvm.Cond.methodLink "AddressHouse$Wire" (13 : Nat) ({ cls := "AddressHouse$Row", name := "<init>", desc := "(I)V" } : Jvm.MethodName) ∈ xw0 := List.mem_of_getElem? (i := 44) rfl
theorem k_45 : Jvm.Cond.fieldLink "AddressHouse$Wire" (16 : Nat) "AddressHouse$Wire" "head" "LAddressHouse$Row;" ∈ xw0 := List.mem_of_getElem? (i := 45) rfl
theorem k_46 : Jvm.Cond.fieldLink "AddressHouse$Wire" (20 : Nat) "AddressHouse$Wire" "load" "LAddressHouse$Row;" ∈ xw0 := List.mem_of_getElem? (i := 46) rfl
theorem k_47 : Jvm.Cond.fieldLink "AddressHouse" (124 : Nat) "AddressHouse$Wire" "load" "LAddressHouse$Row;" ∈ xw0 := List.mem_of_getElem? (i := 47) rfl
theorem k_48 : Jvm.Cond.fieldLink "AddressHouse$Wire" (23 : Nat) "AddressHouse$Wire" "from" "[I" ∈ xw0 := List.mem_of_getElem? (i := 48) rfl
theorem k_49 : Jvm.Cond.fieldLink "AddressHouse$Wire" (27 : Nat) "AddressHouse$Wire" "to" "[I" ∈ xw0 := List.mem_of_getElem? (i := 49) rfl
theorem k_50 : Jvm.Cond.fieldLink "AddressHouse" (95 : Nat) "AddressHouse$Wire" "alive" "Z" ∈ xw0 := List.mem_of_getElem? (i := 50) rfl
theorem k_51 : Jvm.Cond.fieldLink "AddressHouse$Wire" (33 : Nat) "AddressHouse$Wire" "state" "I" ∈ xw0 := List.mem_of_getElem? (i := 51) rfl
theorem k_52 : Jvm.Cond.laysFinal "AddressHouse$Wire" "AddressHouse$Wire" "head" "LAddressHouse$Row;" ∈ xw0 := List.mem_of_getElem? (i := 52) rfl
theorem k_53 : Jvm.Cond.laysFinal "AddressHouse$Wire" "AddressHouse$Wire" "load" "LAddressHouse$Row;" ∈ xw0 := List.mem_of_getElem? (i := 53) rfl
theorem k_54 : Jvm.Cond.laysFinal "AddressHouse$Wire" "AddressHouse$Wire" "from" "[I" ∈ xw0 := List.mem_of_getElem? (i := 54) rfl
theorem k_55 : Jvm.Cond.laysFinal "AddressHouse$Wire" "AddressHouse$Wire" "to" "[I" ∈ xw0 := List.mem_of_getElem? (i := 55) rfl
theorem k_56 : Jvm.Cond.lays "AddressHouse$Wire" "AddressHouse$Wire" "alive" "Z" ∈ xw0 := List.mem_of_getElem? (i := 56) rfl
theorem k_57 : Jvm.Cond.lays "AddressHouse$Wire" "AddressHouse$Wire" "methodTo" "I" ∈ xw0 := List.mem_of_getElem? (i := 57) rfl
theorem k_58 : Jvm.Cond.lays "AddressHouse$Wire" "AddressHouse$Wire" "targetTo" "I" ∈ xw0 := List.mem_of_getElem? (i := 58) rfl
theorem k_59 : Jvm.Cond.lays "AddressHouse$Wire" "AddressHouse$Wire" "state" "I" ∈ xw0 := List.mem_of_getElem? (i := 59) rfl
theorem k_60 : Jvm.Cond.lays "AddressHouse$Wire" "AddressHouse$Wire" "need" "I" ∈ xw0 := List.mem_of_getElem? (i := 60) rfl
theorem k_61 : Jvm.Cond.lays "AddressHouse$Wire" "AddressHouse$Wire" "digits" "I" ∈ xw0 := List.mem_of_getElem? (i := 61) rfl
theorem k_62 : Jvm.Cond.lays "AddressHouse$Wire" "AddressHouse$Wire" "twice" "Z" ∈ xw0 := List.mem_of_getElem? (i := 62) rfl
theorem k_63 : Jvm.Cond.superclass "AddressHouse$Wire" "java/lang/Object" ∈ xw0 := List.mem_of_getElem? (i := 63) rfl
theorem k_64 : Jvm.Cond.arrayClass Jvm.ClassFile.FieldType.int ∈ xw0 := List.mem_of_getElem? (i := 64) rfl
theorem k_65 : Jvm.Cond.classLink "AddressHouse" (29 : Nat) "AddressHouse$House" ∈ xw0 := List.mem_of_getElem? (i := 65) rfl
theorem k_66 : Jvm.Cond.instantiable "AddressHouse$House" (17 : Nat) ∈ xw0 := List.mem_of_getElem? (i := 66) rfl
theorem k_67 : Jvm.Cond.methodLink "AddressHouse" (31 : Nat) ({ cls := "AddressHouse$House", name := "<init>", desc := "()V" } : Jvm.MethodName) ∈ xw0 := List.mem_of_getElem? (i := 67) rfl
theorem k_68 : Jvm.Cond.instanceMethod ({ cls := "AddressHouse$House", name := "<init>", desc := "()V" } : Jvm.MethodName) ∈ xw0 := List.mem_of_getElem? (i := 68) rfl
theorem k_69 : Jvm.Cond.code ({ cls := "AddressHouse$House", name := "<init>", desc := "()V" } : Jvm.MethodName) prog_6_method_1_code (2 : Nat) (Option.none : Option Jvm.ClassFile.FieldType) ∈ xw0 := List.mem_of_getElem? (i := 69) rfl
theorem k_70 : Jvm.Cond.methodLink "AddressHouse$House" (3 : Nat) ({ cls := "java/lang/Object", name := "<init>", desc := "()V" } : Jvm.MethodName) ∈ xw0 := List.mem_of_getElem? (i := 70) rfl
theorem k_71 : Jvm.Cond.classLink "AddressHouse$House" (11 : Nat) "AddressHouse$Row" ∈ xw0 := List.mem_of_getElem? (i := 71) rfl
theorem k_72 : Jvm.Cond.methodLink "AddressHouse$House" (21 : Nat) ({ cls := "AddressHouse$Row", name := "<init>", desc := "(I)V" } : Jvm.MethodName) ∈ xw0 := List.mem_of_getElem? (i := 72) rfl
theorem k_73 : Jvm.Cond.classLink "AddressHouse$House" (24 : Nat) "AddressHouse$Book" ∈ xw0 := List.mem_of_getElem? (i := 73) rfl
theorem k_74 : Jvm.Cond.instantiable "AddressHouse$Book" (13 : Nat) ∈ xw0 := List.mem_of_getElem? (i := 74) rfl
theorem k_75 : Jvm.Cond.methodLink "AddressHouse$House" (30 : Nat) ({ cls := "AddressHouse$Book", name := "<init>", desc := "()V" } : Jvm.MethodName) ∈ xw0 := List.mem_of_getElem? (i := 75) rfl
theorem k_76 : Jvm.Cond.instanceMethod ({ cls := "AddressHouse$Book", name := "<init>", desc := "()V" } : Jvm.MethodName) ∈ xw0 := List.mem_of_getElem? (i := 76) rfl
theorem k_77 : Jvm.Cond.code ({ cls := "AddressHouse$Book", name := "<init>", desc := "()V" } : Jvm.MethodName) prog_2_method_1_code (2 : Nat) (Option.none : Option Jvm.ClassFile.FieldType) ∈ xw0 := List.mem_of_getElem? (i := 77) rfl
theorem k_78 : Jvm.Cond.methodLink "AddressHouse$Book" (3 : Nat) ({ cls := "java/lang/Object", name := "<init>", desc := "()V" } : Jvm.MethodName) ∈ xw0 := List.mem_of_getElem? (i := 78) rfl
theorem k_79 : Jvm.Cond.classLink "AddressHouse$Book" (15 : Nat) "AddressHouse$Row" ∈ xw0 := List.mem_of_getElem? (i := 79) rfl
theorem k_80 : Jvm.Cond.methodLink "AddressHouse$Book" (17 : Nat) ({ cls := "AddressHouse$Row", name := "<init>", desc := "(I)V" } : Jvm.MethodName) ∈ xw0 := List.mem_of_getElem? (i := 80) rfl
theorem k_81 : Jvm.Cond.fieldLink "AddressHouse$Book" (9 : Nat) "AddressHouse$Book" "owner" "I" ∈ xw0 := List.mem_of_getElem? (i := 81) rfl
theorem k_82 : Jvm.Cond.fieldLink "AddressHouse$House" (162 : Nat) "AddressHouse$Book" "owner" "I" ∈ xw0 := List.mem_of_getElem? (i := 82) rfl
theorem k_83 : Jvm.Cond.fieldLink "AddressHouse$Book" (20 : Nat) "AddressHouse$Book" "name" "LAddressHouse$Row;" ∈ xw0 := List.mem_of_getElem? (i := 83) rfl
theorem k_84 : Jvm.Cond.fieldLink "AddressHouse$Book" (24 : Nat) "AddressHouse$Book" "title" "LAddressHouse$Row;" ∈ xw0 := List.mem_of_getElem? (i := 84) rfl
theorem k_85 : Jvm.Cond.fieldLink "AddressHouse$Book" (27 : Nat) "AddressHouse$Book" "note" "LAddressHouse$Row;" ∈ xw0 := List.mem_of_getElem? (i := 85) rfl
theorem k_86 : Jvm.Cond.fieldLink "AddressHouse$Book" (32 : Nat) "AddressHouse$Book" "readers" "[I" ∈ xw0 := List.mem_of_getElem? (i := 86) rfl
theorem k_87 : Jvm.Cond.fieldLink "AddressHouse$Book" (36 : Nat) "AddressHouse$Book" "goneNames" "[LAddressHouse$Row;" ∈ xw0 := List.mem_of_getElem? (i := 87) rfl
theorem k_88 : Jvm.Cond.fieldLink "AddressHouse$Book" (40 : Nat) "AddressHouse$Book" "goneChanges" "[I" ∈ xw0 := List.mem_of_getElem? (i := 88) rfl
theorem k_89 : Jvm.Cond.lays "AddressHouse$Book" "AddressHouse$Book" "owner" "I" ∈ xw0 := List.mem_of_getElem? (i := 89) rfl
theorem k_90 : Jvm.Cond.lays "AddressHouse$Book" "AddressHouse$Book" "made" "I" ∈ xw0 := List.mem_of_getElem? (i := 90) rfl
theorem k_91 : Jvm.Cond.laysFinal "AddressHouse$Book" "AddressHouse$Book" "name" "LAddressHouse$Row;" ∈ xw0 := List.mem_of_getElem? (i := 91) rfl
theorem k_92 : Jvm.Cond.laysFinal "AddressHouse$Book" "AddressHouse$Book" "title" "LAddressHouse$Row;" ∈ xw0 := List.mem_of_getElem? (i := 92) rfl
theorem k_93 : Jvm.Cond.lays "AddressHouse$Book" "AddressHouse$Book" "hasTitle" "Z" ∈ xw0 := List.mem_of_getElem? (i := 93) rfl
theorem k_94 : Jvm.Cond.laysFinal "AddressHouse$Book" "AddressHouse$Book" "note" "LAddressHouse$Row;" ∈ xw0 := List.mem_of_getElem? (i := 94) rfl
theorem k_95 : Jvm.Cond.lays "AddressHouse$Book" "AddressHouse$Book" "hasNote" "Z" ∈ xw0 := List.mem_of_getElem? (i := 95) rfl
theorem k_96 : Jvm.Cond.laysFinal "AddressHouse$Book" "AddressHouse$Book" "readers" "[I" ∈ xw0 := List.mem_of_getElem? (i := 96) rfl
theorem k_97 : Jvm.Cond.lays "AddressHouse$Book" "AddressHouse$Book" "readerCount" "I" ∈ xw0 := List.mem_of_getElem? (i := 97) rfl
theorem k_98 : Jvm.Cond.laysFinal "AddressHouse$Book" "AddressHouse$Book" "goneNames" "[LAddressHouse$Row;" ∈ xw0 := List.mem_of_getElem? (i := 98) rfl
theorem k_99 : Jvm.Cond.laysFinal "AddressHouse$Book" "AddressHouse$Book" "goneChanges" "[I" ∈ xw0 := List.mem_of_getElem? (i := 99) rfl
theorem k_100 : Jvm.Cond.lays "AddressHouse$Book" "AddressHouse$Book" "goneCount" "I" ∈ xw0 := List.mem_of_getElem? (i := 100) rfl
theorem k_101 : Jvm.Cond.lays "AddressHouse$Book" "AddressHouse$Book" "forgotten" "I" ∈ xw0 := List.mem_of_getElem? (i := 101) rfl
theorem k_102 : Jvm.Cond.superclass "AddressHouse$Book" "java/lang/Object" ∈ xw0 := List.mem_of_getElem? (i := 102) rfl
theorem k_103 : Jvm.Cond.classLink "AddressHouse$House" (31 : Nat) "AddressHouse$Item" ∈ xw0 := List.mem_of_getElem? (i := 103) rfl
theorem k_104 : Jvm.Cond.instantiable "AddressHouse$Item" (5 : Nat) ∈ xw0 := List.mem_of_getElem? (i := 104) rfl
theorem k_105 : Jvm.Cond.methodLink "AddressHouse$House" (37 : Nat) ({ cls := "AddressHouse$Item", name := "<init>", desc := "()V" } : Jvm.MethodName) ∈ xw0 := List.mem_of_getElem? (i := 105) rfl
theorem k_106 : Jvm.Cond.instanceMethod ({ cls := "AddressHouse$Item", name := "<init>", desc := "()V" } : Jvm.MethodName) ∈ xw0 := List.mem_of_getElem? (i := 106) rfl
theorem k_107 : Jvm.Cond.code ({ cls := "AddressHouse$Item", name := "<init>", desc := "()V" } : Jvm.MethodName) prog_7_method_1_code (1 : Nat) (Option.none : Option Jvm.ClassFile.FieldType) ∈ xw0 := List.mem_of_getElem? (i := 107) rfl
theorem k_108 : Jvm.Cond.methodLink "AddressHouse$Item" (3 : Nat) ({ cls := "java/lang/Object", name := "<init>", desc := "()V" } : Jvm.MethodName) ∈ xw0 := List.mem_of_getElem? (i := 108) rfl
theorem k_109 : Jvm.Cond.classLink "AddressHouse$Item" (15 : Nat) "AddressHouse$Row" ∈ xw0 := List.mem_of_getElem? (i := 109) rfl
theorem k_110 : Jvm.Cond.methodLink "AddressHouse$Item" (17 : Nat) ({ cls := "AddressHouse$Row", name := "<init>", desc := "(I)V" } : Jvm.MethodName) ∈ xw0 := List.mem_of_getElem? (i := 110) rfl
theorem k_111 : Jvm.Cond.fieldLink "AddressHouse$Item" (9 : Nat) "AddressHouse$Item" "book" "I" ∈ xw0 := List.mem_of_getElem? (i := 111) rfl
theorem k_112 : Jvm.Cond.fieldLink "AddressHouse$House" (166 : Nat) "AddressHouse$Item" "book" "I" ∈ xw0 := List.mem_of_getElem? (i := 112) rfl
theorem k_113 : Jvm.Cond.fieldLink "AddressHouse$Item" (20 : Nat) "AddressHouse$Item" "name" "LAddressHouse$Row;" ∈ xw0 := List.mem_of_getElem? (i := 113) rfl
theorem k_114 : Jvm.Cond.fieldLink "AddressHouse$Item" (26 : Nat) "AddressHouse$Item" "text" "LAddressHouse$Row;" ∈ xw0 := List.mem_of_getElem? (i := 114) rfl
theorem k_115 : Jvm.Cond.fieldLink "AddressHouse$Item" (29 : Nat) "AddressHouse$Item" "uid" "LAddressHouse$Row;" ∈ xw0 := List.mem_of_getElem? (i := 115) rfl
theorem k_116 : Jvm.Cond.lays "AddressHouse$Item" "AddressHouse$Item" "book" "I" ∈ xw0 := List.mem_of_getElem? (i := 116) rfl
theorem k_117 : Jvm.Cond.lays "AddressHouse$Item" "AddressHouse$Item" "change" "I" ∈ xw0 := List.mem_of_getElem? (i := 117) rfl
theorem k_118 : Jvm.Cond.laysFinal "AddressHouse$Item" "AddressHouse$Item" "name" "LAddressHouse$Row;" ∈ xw0 := List.mem_of_getElem? (i := 118) rfl
theorem k_119 : Jvm.Cond.laysFinal "AddressHouse$Item" "AddressHouse$Item" "text" "LAddressHouse$Row;" ∈ xw0 := List.mem_of_getElem? (i := 119) rfl
theorem k_120 : Jvm.Cond.laysFinal "AddressHouse$Item" "AddressHouse$Item" "uid" "LAddressHouse$Row;" ∈ xw0 := List.mem_of_getElem? (i := 120) rfl
theorem k_121 : Jvm.Cond.superclass "AddressHouse$Item" "java/lang/Object" ∈ xw0 := List.mem_of_getElem? (i := 121) rfl
theorem k_122 : Jvm.Cond.fieldLink "AddressHouse$House" (13 : Nat) "AddressHouse$House" "users" "[LAddressHouse$Row;" ∈ xw0 := List.mem_of_getElem? (i := 122) rfl
theorem k_123 : Jvm.Cond.fieldLink "AddressHouse$House" (17 : Nat) "AddressHouse$House" "nameTo" "[I" ∈ xw0 := List.mem_of_getElem? (i := 123) rfl
theorem k_124 : Jvm.Cond.fieldLink "AddressHouse$House" (66 : Nat) "AddressHouse$House" "userCount" "I" ∈ xw0 := List.mem_of_getElem? (i := 124) rfl
theorem k_125 : Jvm.Cond.fieldLink "AddressHouse$House" (26 : Nat) "AddressHouse$House" "books" "[LAddressHouse$Book;" ∈ xw0 := List.mem_of_getElem? (i := 125) rfl
theorem k_126 : Jvm.Cond.fieldLink "AddressHouse$House" (33 : Nat) "AddressHouse$House" "items" "[LAddressHouse$Item;" ∈ xw0 := List.mem_of_getElem? (i := 126) rfl
theorem k_127 : Jvm.Cond.fieldLink "AddressHouse" (202 : Nat) "AddressHouse$House" "changes" "I" ∈ xw0 := List.mem_of_getElem? (i := 127) rfl
theorem k_128 : Jvm.Cond.fieldLink "AddressHouse$House" (38 : Nat) "AddressHouse$House" "order" "[I" ∈ xw0 := List.mem_of_getElem? (i := 128) rfl
theorem k_129 : Jvm.Cond.fieldLink "AddressHouse$House" (41 : Nat) "AddressHouse$House" "secret" "LAddressHouse$Row;" ∈ xw0 := List.mem_of_getElem? (i := 129) rfl
theorem k_130 : Jvm.Cond.fieldLink "AddressHouse$House" (45 : Nat) "AddressHouse$House" "noBook" "LAddressHouse$Book;" ∈ xw0 := List.mem_of_getElem? (i := 130) rfl
theorem k_131 : Jvm.Cond.fieldLink "AddressHouse$House" (49 : Nat) "AddressHouse$House" "noItem" "LAddressHouse$Item;" ∈ xw0 := List.mem_of_getElem? (i := 131) rfl
theorem k_132 : Jvm.Cond.fieldLink "AddressHouse$House" (55 : Nat) "AddressHouse$House" "path" "LAddressHouse$Row;" ∈ xw0 := List.mem_of_getElem? (i := 132) rfl
theorem k_133 : Jvm.Cond.laysFinal "AddressHouse$House" "AddressHouse$House" "users" "[LAddressHouse$Row;" ∈ xw0 := List.mem_of_getElem? (i := 133) rfl
theorem k_134 : Jvm.Cond.laysFinal "AddressHouse$House" "AddressHouse$House" "nameTo" "[I" ∈ xw0 := List.mem_of_getElem? (i := 134) rfl
theorem k_135 : Jvm.Cond.lays "AddressHouse$House" "AddressHouse$House" "userCount" "I" ∈ xw0 := List.mem_of_getElem? (i := 135) rfl
theorem k_136 : Jvm.Cond.laysFinal "AddressHouse$House" "AddressHouse$House" "books" "[LAddressHouse$Book;" ∈ xw0 := List.mem_of_getElem? (i := 136) rfl
theorem k_137 : Jvm.Cond.laysFinal "AddressHouse$House" "AddressHouse$House" "items" "[LAddressHouse$Item;" ∈ xw0 := List.mem_of_getElem? (i := 137) rfl
theorem k_138 : Jvm.Cond.lays "AddressHouse$House" "AddressHouse$House" "changes" "I" ∈ xw0 := List.mem_of_getElem? (i := 138) rfl
theorem k_139 : Jvm.Cond.laysFinal "AddressHouse$House" "AddressHouse$House" "order" "[I" ∈ xw0 := List.mem_of_getElem? (i := 139) rfl
theorem k_140 : Jvm.Cond.laysFinal "AddressHouse$House" "AddressHouse$House" "secret" "LAddressHouse$Row;" ∈ xw0 := List.mem_of_getElem? (i := 140) rfl
theorem k_141 : Jvm.Cond.laysFinal "AddressHouse$House" "AddressHouse$House" "noBook" "LAddressHouse$Book;" ∈ xw0 := List.mem_of_getElem? (i := 141) rfl
theorem k_142 : Jvm.Cond.laysFinal "AddressHouse$House" "AddressHouse$House" "noItem" "LAddressHouse$Item;" ∈ xw0 := List.mem_of_getElem? (i := 142) rfl
theorem k_143 : Jvm.Cond.laysFinal "AddressHouse$House" "AddressHouse$House" "path" "LAddressHouse$Row;" ∈ xw0 := List.mem_of_getElem? (i := 143) rfl
theorem k_144 : Jvm.Cond.lays "AddressHouse$House" "AddressHouse$House" "kind" "I" ∈ xw0 := List.mem_of_getElem? (i := 144) rfl
theorem k_145 : Jvm.Cond.lays "AddressHouse$House" "AddressHouse$House" "owner" "I" ∈ xw0 := List.mem_of_getElem? (i := 145) rfl
theorem k_146 : Jvm.Cond.lays "AddressHouse$House" "AddressHouse$House" "book" "I" ∈ xw0 := List.mem_of_getElem? (i := 146) rfl
theorem k_147 : Jvm.Cond.lays "AddressHouse$House" "AddressHouse$House" "item" "I" ∈ xw0 := List.mem_of_getElem? (i := 147) rfl
theorem k_148 : Jvm.Cond.lays "AddressHouse$House" "AddressHouse$House" "lastFrom" "I" ∈ xw0 := List.mem_of_getElem? (i := 148) rfl
theorem k_149 : Jvm.Cond.lays "AddressHouse$House" "AddressHouse$House" "lastTo" "I" ∈ xw0 := List.mem_of_getElem? (i := 149) rfl
theorem k_150 : Jvm.Cond.superclass "AddressHouse$House" "java/lang/Object" ∈ xw0 := List.mem_of_getElem? (i := 150) rfl
theorem k_151 : Jvm.Cond.classLink "AddressHouse" (36 : Nat) "AddressHouse$Card" ∈ xw0 := List.mem_of_getElem? (i := 151) rfl
theorem k_152 : Jvm.Cond.instantiable "AddressHouse$Card" (10 : Nat) ∈ xw0 := List.mem_of_getElem? (i := 152) rfl
theorem k_153 : Jvm.Cond.methodLink "AddressHouse" (38 : Nat) ({ cls := "AddressHouse$Card", name := "<init>", desc := "()V" } : Jvm.MethodName) ∈ xw0 := List.mem_of_getElem? (i := 153) rfl
theorem k_154 : Jvm.Cond.instanceMethod ({ cls := "AddressHouse$Card", name := "<init>", desc := "()V" } : Jvm.MethodName) ∈ xw0 := List.mem_of_getElem? (i := 154) rfl
theorem k_155 : Jvm.Cond.code ({ cls := "AddressHouse$Card", name := "<init>", desc := "()V" } : Jvm.MethodName) prog_3_method_1_code (1 : Nat) (Option.none : Option Jvm.ClassFile.FieldType) ∈ xw0 := List.mem_of_getElem? (i := 155) rfl
theorem k_156 : Jvm.Cond.methodLink "AddressHouse$Card" (3 : Nat) ({ cls := "java/lang/Object", name := "<init>", desc := "()V" } : Jvm.MethodName) ∈ xw0 := List.mem_of_getElem? (i := 156) rfl
theorem k_157 : Jvm.Cond.classLink "AddressHouse$Card" (9 : Nat) "AddressHouse$Row" ∈ xw0 := List.mem_of_getElem? (i := 157) rfl
theorem k_158 : Jvm.Cond.methodLink "AddressHouse$Card" (11 : Nat) ({ cls := "AddressHouse$Row", name := "<init>", desc := "(I)V" } : Jvm.MethodName) ∈ xw0 := List.mem_of_getElem? (i := 158) rfl
theorem k_159 : Jvm.Cond.classLink "AddressHouse$Card" (20 : Nat) "[[I" ∈ xw0 := List.mem_of_getElem? (i := 159) rfl
theorem k_160 : Jvm.Cond.fieldLink "AddressHouse$Card" (14 : Nat) "AddressHouse$Card" "text" "LAddressHouse$Row;" ∈ xw0 := List.mem_of_getElem? (i := 160) rfl
theorem k_161 : Jvm.Cond.fieldLink "AddressHouse$Card" (42 : Nat) "AddressHouse$Card" "version" "I" ∈ xw0 := List.mem_of_getElem? (i := 161) rfl
theorem k_162 : Jvm.Cond.fieldLink "AddressHouse$Card" (22 : Nat) "AddressHouse$Card" "properties" "[[I" ∈ xw0 := List.mem_of_getElem? (i := 162) rfl
theorem k_163 : Jvm.Cond.fieldLink "AddressHouse$Card" (46 : Nat) "AddressHouse$Card" "size" "I" ∈ xw0 := List.mem_of_getElem? (i := 163) rfl
theorem k_164 : Jvm.Cond.fieldLink "AddressHouse$Card" (25 : Nat) "AddressHouse$Card" "parameters" "[[I" ∈ xw0 := List.mem_of_getElem? (i := 164) rfl
theorem k_165 : Jvm.Cond.fieldLink "AddressHouse$Card" (49 : Nat) "AddressHouse$Card" "parameterCount" "I" ∈ xw0 := List.mem_of_getElem? (i := 165) rfl
theorem k_166 : Jvm.Cond.fieldLink "AddressHouse$Card" (28 : Nat) "AddressHouse$Card" "valueFrom" "[I" ∈ xw0 := List.mem_of_getElem? (i := 166) rfl
theorem k_167 : Jvm.Cond.fieldLink "AddressHouse$Card" (32 : Nat) "AddressHouse$Card" "valueTo" "[I" ∈ xw0 := List.mem_of_getElem? (i := 167) rfl
theorem k_168 : Jvm.Cond.fieldLink "AddressHouse$Card" (52 : Nat) "AddressHouse$Card" "valueCount" "I" ∈ xw0 := List.mem_of_getElem? (i := 168) rfl
theorem k_169 : Jvm.Cond.fieldLink "AddressHouse$Card" (35 : Nat) "AddressHouse$Card" "tally" "[I" ∈ xw0 := List.mem_of_getElem? (i := 169) rfl
theorem k_170 : Jvm.Cond.laysFinal "AddressHouse$Card" "AddressHouse$Card" "text" "LAddressHouse$Row;" ∈ xw0 := List.mem_of_getElem? (i := 170) rfl
theorem k_171 : Jvm.Cond.lays "AddressHouse$Card" "AddressHouse$Card" "version" "I" ∈ xw0 := List.mem_of_getElem? (i := 171) rfl
theorem k_172 : Jvm.Cond.laysFinal "AddressHouse$Card" "AddressHouse$Card" "properties" "[[I" ∈ xw0 := List.mem_of_getElem? (i := 172) rfl
theorem k_173 : Jvm.Cond.lays "AddressHouse$Card" "AddressHouse$Card" "size" "I" ∈ xw0 := List.mem_of_getElem? (i := 173) rfl
theorem k_174 : Jvm.Cond.laysFinal "AddressHouse$Card" "AddressHouse$Card" "parameters" "[[I" ∈ xw0 := List.mem_of_getElem? (i := 174) rfl
theorem k_175 : Jvm.Cond.lays "AddressHouse$Card" "AddressHouse$Card" "parameterCount" "I" ∈ xw0 := List.mem_of_getElem? (i := 175) rfl
theorem k_176 : Jvm.Cond.laysFinal "AddressHouse$Card" "AddressHouse$Card" "valueFrom" "[I" ∈ xw0 := List.mem_of_getElem? (i := 176) rfl
theorem k_177 : Jvm.Cond.laysFinal "AddressHouse$Card" "AddressHouse$Card" "valueTo" "[I" ∈ xw0 := List.mem_of_getElem? (i := 177) rfl
theorem k_178 : Jvm.Cond.lays "AddressHouse$Card" "AddressHouse$Card" "valueCount" "I" ∈ xw0 := List.mem_of_getElem? (i := 178) rfl
theorem k_179 : Jvm.Cond.laysFinal "AddressHouse$Card" "AddressHouse$Card" "tally" "[I" ∈ xw0 := List.mem_of_getElem? (i := 179) rfl
theorem k_180 : Jvm.Cond.superclass "AddressHouse$Card" "java/lang/Object" ∈ xw0 := List.mem_of_getElem? (i := 180) rfl
theorem k_181 : Jvm.Cond.classLink "AddressHouse" (43 : Nat) "AddressHouse$Xml" ∈ xw0 := List.mem_of_getElem? (i := 181) rfl
theorem k_182 : Jvm.Cond.instantiable "AddressHouse$Xml" (17 : Nat) ∈ xw0 := List.mem_of_getElem? (i := 182) rfl
theorem k_183 : Jvm.Cond.methodLink "AddressHouse" (45 : Nat) ({ cls := "AddressHouse$Xml", name := "<init>", desc := "()V" } : Jvm.MethodName) ∈ xw0 := List.mem_of_getElem? (i := 183) rfl
theorem k_184 : Jvm.Cond.instanceMethod ({ cls := "AddressHouse$Xml", name := "<init>", desc := "()V" } : Jvm.MethodName) ∈ xw0 := List.mem_of_getElem? (i := 184) rfl
theorem k_185 : Jvm.Cond.code ({ cls := "AddressHouse$Xml", name := "<init>", desc := "()V" } : Jvm.MethodName) prog_12_method_1_code (1 : Nat) (Option.none : Option Jvm.ClassFile.FieldType) ∈ xw0 := List.mem_of_getElem? (i := 185) rfl
theorem k_186 : Jvm.Cond.methodLink "AddressHouse$Xml" (3 : Nat) ({ cls := "java/lang/Object", name := "<init>", desc := "()V" } : Jvm.MethodName) ∈ xw0 := List.mem_of_getElem? (i := 186) rfl
theorem k_187 : Jvm.Cond.classLink "AddressHouse$Xml" (11 : Nat) "[[I" ∈ xw0 := List.mem_of_getElem? (i := 187) rfl
theorem k_188 : Jvm.Cond.classLink "AddressHouse$Xml" (21 : Nat) "AddressHouse$Row" ∈ xw0 := List.mem_of_getElem? (i := 188) rfl
theorem k_189 : Jvm.Cond.methodLink "AddressHouse$Xml" (23 : Nat) ({ cls := "AddressHouse$Row", name := "<init>", desc := "(I)V" } : Jvm.MethodName) ∈ xw0 := List.mem_of_getElem? (i := 189) rfl
theorem k_190 : Jvm.Cond.fieldLink "AddressHouse$Xml" (13 : Nat) "AddressHouse$Xml" "elements" "[[I" ∈ xw0 := List.mem_of_getElem? (i := 190) rfl
theorem k_191 : Jvm.Cond.fieldLink "AddressHouse$Xml" (18 : Nat) "AddressHouse$Xml" "attributes" "[[I" ∈ xw0 := List.mem_of_getElem? (i := 191) rfl
theorem k_192 : Jvm.Cond.fieldLink "AddressHouse$Xml" (26 : Nat) "AddressHouse$Xml" "values" "LAddressHouse$Row;" ∈ xw0 := List.mem_of_getElem? (i := 192) rfl
theorem k_193 : Jvm.Cond.fieldLink "AddressHouse$Xml" (30 : Nat) "AddressHouse$Xml" "spaces" "[[I" ∈ xw0 := List.mem_of_getElem? (i := 193) rfl
theorem k_194 : Jvm.Cond.fieldLink "AddressHouse$Xml" (33 : Nat) "AddressHouse$Xml" "bindings" "[[I" ∈ xw0 := List.mem_of_getElem? (i := 194) rfl
theorem k_195 : Jvm.Cond.fieldLink "AddressHouse$Xml" (36 : Nat) "AddressHouse$Xml" "marks" "[I" ∈ xw0 := List.mem_of_getElem? (i := 195) rfl
theorem k_196 : Jvm.Cond.fieldLink "AddressHouse$Xml" (40 : Nat) "AddressHouse$Xml" "stack" "[I" ∈ xw0 := List.mem_of_getElem? (i := 196) rfl
theorem k_197 : Jvm.Cond.fieldLink "AddressHouse$Xml" (43 : Nat) "AddressHouse$Xml" "loose" "LAddressHouse$Row;" ∈ xw0 := List.mem_of_getElem? (i := 197) rfl
theorem k_198 : Jvm.Cond.fieldLink "AddressHouse$Xml" (46 : Nat) "AddressHouse$Xml" "owners" "[I" ∈ xw0 := List.mem_of_getElem? (i := 198) rfl
theorem k_199 : Jvm.Cond.fieldLink "AddressHouse$Xml" (49 : Nat) "AddressHouse$Xml" "texts" "LAddressHouse$Row;" ∈ xw0 := List.mem_of_getElem? (i := 199) rfl
theorem k_200 : Jvm.Cond.fieldLink "AddressHouse$Xml" (52 : Nat) "AddressHouse$Xml" "source" "LAddressHouse$Row;" ∈ xw0 := List.mem_of_getElem? (i := 200) rfl
theorem k_201 : Jvm.Cond.laysFinal "AddressHouse$Xml" "AddressHouse$Xml" "elements" "[[I" ∈ xw0 := List.mem_of_getElem? (i := 201) rfl
theorem k_202 : Jvm.Cond.lays "AddressHouse$Xml" "AddressHouse$Xml" "size" "I" ∈ xw0 := List.mem_of_getElem? (i := 202) rfl
theorem k_203 : Jvm.Cond.laysFinal "AddressHouse$Xml" "AddressHouse$Xml" "attributes" "[[I" ∈ xw0 := List.mem_of_getElem? (i := 203) rfl
theorem k_204 : Jvm.Cond.lays "AddressHouse$Xml" "AddressHouse$Xml" "attributeCount" "I" ∈ xw0 := List.mem_of_getElem? (i := 204) rfl
theorem k_205 : Jvm.Cond.laysFinal "AddressHouse$Xml" "AddressHouse$Xml" "values" "LAddressHouse$Row;" ∈ xw0 := List.mem_of_getElem? (i := 205) rfl
theorem k_206 : Jvm.Cond.laysFinal "AddressHouse$Xml" "AddressHouse$Xml" "spaces" "[[I" ∈ xw0 := List.mem_of_getElem? (i := 206) rfl
theorem k_207 : Jvm.Cond.lays "AddressHouse$Xml" "AddressHouse$Xml" "spaceCount" "I" ∈ xw0 := List.mem_of_getElem? (i := 207) rfl
theorem k_208 : Jvm.Cond.laysFinal "AddressHouse$Xml" "AddressHouse$Xml" "bindings" "[[I" ∈ xw0 := List.mem_of_getElem? (i := 208) rfl
theorem k_209 : Jvm.Cond.lays "AddressHouse$Xml" "AddressHouse$Xml" "bindingCount" "I" ∈ xw0 := List.mem_of_getElem? (i := 209) rfl
theorem k_210 : Jvm.Cond.laysFinal "AddressHouse$Xml" "AddressHouse$Xml" "marks" "[I" ∈ xw0 := List.mem_of_getElem? (i := 210) rfl
theorem k_211 : Jvm.Cond.laysFinal "AddressHouse$Xml" "AddressHouse$Xml" "stack" "[I" ∈ xw0 := List.mem_of_getElem? (i := 211) rfl
theorem k_212 : Jvm.Cond.lays "AddressHouse$Xml" "AddressHouse$Xml" "depth" "I" ∈ xw0 := List.mem_of_getElem? (i := 212) rfl
theorem k_213 : Jvm.Cond.laysFinal "AddressHouse$Xml" "AddressHouse$Xml" "loose" "LAddressHouse$Row;" ∈ xw0 := List.mem_of_getElem? (i := 213) rfl
theorem k_214 : Jvm.Cond.laysFinal "AddressHouse$Xml" "AddressHouse$Xml" "owners" "[I" ∈ xw0 := List.mem_of_getElem? (i := 214) rfl
theorem k_215 : Jvm.Cond.laysFinal "AddressHouse$Xml" "AddressHouse$Xml" "texts" "LAddressHouse$Row;" ∈ xw0 := List.mem_of_getElem? (i := 215) rfl
theorem k_216 : Jvm.Cond.lays "AddressHouse$Xml" "AddressHouse$Xml" "source" "LAddressHouse$Row;" ∈ xw0 := List.mem_of_getElem? (i := 216) rfl
theorem k_217 : Jvm.Cond.lays "AddressHouse$Xml" "AddressHouse$Xml" "pos" "I" ∈ xw0 := List.mem_of_getElem? (i := 217) rfl
theorem k_218 : Jvm.Cond.superclass "AddressHouse$Xml" "java/lang/Object" ∈ xw0 := List.mem_of_getElem? (i := 218) rfl
theorem k_219 : Jvm.Cond.classLink "AddressHouse" (50 : Nat) "AddressHouse$Scribe" ∈ xw0 := List.mem_of_getElem? (i := 219) rfl
theorem k_220 : Jvm.Cond.instantiable "AddressHouse$Scribe" (9 : Nat) ∈ xw0 := List.mem_of_getElem? (i := 220) rfl
theorem k_221 : Jvm.Cond.methodLink "AddressHouse" (52 : Nat) ({ cls := "AddressHouse$Scribe", name := "<init>", desc := "(LAddressHouse$Card;LAddressHouse$Xml;)V" } : Jvm.MethodName) ∈ xw0 := List.mem_of_getElem? (i := 221) rfl
theorem k_222 : Jvm.Cond.instanceMethod ({ cls := "AddressHouse$Scribe", name := "<init>", desc := "(LAddressHouse$Card;LAddressHouse$Xml;)V" } : Jvm.MethodName) ∈ xw0 := List.mem_of_getElem? (i := 222) rfl
theorem k_223 : Jvm.Cond.code ({ cls := "AddressHouse$Scribe", name := "<init>", desc := "(LAddressHouse$Card;LAddressHouse$Xml;)V" } : Jvm.MethodName) prog_10_method_1_code (3 : Nat) (Option.none : Option Jvm.ClassFile.FieldType) ∈ xw0 := List.mem_of_getElem? (i := 223) rfl
theorem k_224 : Jvm.Cond.methodLink "AddressHouse$Scribe" (3 : Nat) ({ cls := "java/lang/Object", name := "<init>", desc := "()V" } : Jvm.MethodName) ∈ xw0 := List.mem_of_getElem? (i := 224) rfl
theorem k_225 : Jvm.Cond.classLink "AddressHouse$Scribe" (19 : Nat) "AddressHouse$Row" ∈ xw0 := List.mem_of_getElem? (i := 225) rfl
theorem k_226 : Jvm.Cond.methodLink "AddressHouse$Scribe" (21 : Nat) ({ cls := "AddressHouse$Row", name := "<init>", desc := "(I)V" } : Jvm.MethodName) ∈ xw0 := List.mem_of_getElem? (i := 226) rfl
theorem k_227 : Jvm.Cond.fieldLink "AddressHouse$Scribe" (9 : Nat) "AddressHouse$Scribe" "card" "LAddressHouse$Card;" ∈ xw0 := List.mem_of_getElem? (i := 227) rfl
theorem k_228 : Jvm.Cond.fieldLink "AddressHouse$Scribe" (15 : Nat) "AddressHouse$Scribe" "xml" "LAddressHouse$Xml;" ∈ xw0 := List.mem_of_getElem? (i := 228) rfl
theorem k_229 : Jvm.Cond.fieldLink "AddressHouse$Scribe" (24 : Nat) "AddressHouse$Scribe" "line" "LAddressHouse$Row;" ∈ xw0 := List.mem_of_getElem? (i := 229) rfl
theorem k_230 : Jvm.Cond.fieldLink "AddressHouse$Scribe" (28 : Nat) "AddressHouse$Scribe" "part" "LAddressHouse$Row;" ∈ xw0 := List.mem_of_getElem? (i := 230) rfl
theorem k_231 : Jvm.Cond.fieldLink "AddressHouse$Scribe" (31 : Nat) "AddressHouse$Scribe" "picker" "I" ∈ xw0 := List.mem_of_getElem? (i := 231) rfl
theorem k_232 : Jvm.Cond.laysFinal "AddressHouse$Scribe" "AddressHouse$Scribe" "card" "LAddressHouse$Card;" ∈ xw0 := List.mem_of_getElem? (i := 232) rfl
theorem k_233 : Jvm.Cond.laysFinal "AddressHouse$Scribe" "AddressHouse$Scribe" "xml" "LAddressHouse$Xml;" ∈ xw0 := List.mem_of_getElem? (i := 233) rfl
theorem k_234 : Jvm.Cond.laysFinal "AddressHouse$Scribe" "AddressHouse$Scribe" "line" "LAddressHouse$Row;" ∈ xw0 := List.mem_of_getElem? (i := 234) rfl
theorem k_235 : Jvm.Cond.laysFinal "AddressHouse$Scribe" "AddressHouse$Scribe" "part" "LAddressHouse$Row;" ∈ xw0 := List.mem_of_getElem? (i := 235) rfl
theorem k_236 : Jvm.Cond.lays "AddressHouse$Scribe" "AddressHouse$Scribe" "page" "LAddressHouse$Row;" ∈ xw0 := List.mem_of_getElem? (i := 236) rfl
theorem k_237 : Jvm.Cond.lays "AddressHouse$Scribe" "AddressHouse$Scribe" "picker" "I" ∈ xw0 := List.mem_of_getElem? (i := 237) rfl
theorem k_238 : Jvm.Cond.lays "AddressHouse$Scribe" "AddressHouse$Scribe" "choosy" "Z" ∈ xw0 := List.mem_of_getElem? (i := 238) rfl
theorem k_239 : Jvm.Cond.lays "AddressHouse$Scribe" "AddressHouse$Scribe" "nameEnd" "I" ∈ xw0 := List.mem_of_getElem? (i := 239) rfl
theorem k_240 : Jvm.Cond.lays "AddressHouse$Scribe" "AddressHouse$Scribe" "valueStart" "I" ∈ xw0 := List.mem_of_getElem? (i := 240) rfl
theorem k_241 : Jvm.Cond.superclass "AddressHouse$Scribe" "java/lang/Object" ∈ xw0 := List.mem_of_getElem? (i := 241) rfl
theorem k_242 : Jvm.Cond.classLink "AddressHouse" (59 : Nat) "AddressHouse$Listing" ∈ xw0 := List.mem_of_getElem? (i := 242) rfl
theorem k_243 : Jvm.Cond.instantiable "AddressHouse$Listing" (16 : Nat) ∈ xw0 := List.mem_of_getElem? (i := 243) rfl
theorem k_244 : Jvm.Cond.constant "AddressHouse" (61 : Nat) (60100 : Int32) ∈ xw0 := List.mem_of_getElem? (i := 244) rfl
theorem k_245 : Jvm.Cond.methodLink "AddressHouse" (62 : Nat) ({ cls := "AddressHouse$Listing", name := "<init>", desc := "(LAddressHouse$House;LAddressHouse$Xml;LAddressHouse$Row;)V" } : Jvm.MethodName) ∈ xw0 := List.mem_of_getElem? (i := 245) rfl
theorem k_246 : Jvm.Cond.instanceMethod ({ cls := "AddressHouse$Listing", name := "<init>", desc := "(LAddressHouse$House;LAddressHouse$Xml;LAddressHouse$Row;)V" } : Jvm.MethodName) ∈ xw0 := List.mem_of_getElem? (i := 246) rfl
theorem k_247 : Jvm.Cond.code ({ cls := "AddressHouse$Listing", name := "<init>", desc := "(LAddressHouse$House;LAddressHouse$Xml;LAddressHouse$Row;)V" } : Jvm.MethodName) prog_8_method_1_code (4 : Nat) (Option.none : Option Jvm.ClassFile.FieldType) ∈ xw0 := List.mem_of_getElem? (i := 247) rfl
theorem k_248 : Jvm.Cond.methodLink "AddressHouse$Listing" (3 : Nat) ({ cls := "java/lang/Object", name := "<init>", desc := "()V" } : Jvm.MethodName) ∈ xw0 := List.mem_of_getElem? (i := 248) rfl
theorem k_249 : Jvm.Cond.classLink "AddressHouse$Listing" (23 : Nat) "AddressHouse$Row" ∈ xw0 := List.mem_of_getElem? (i := 249) rfl
theorem k_250 : Jvm.Cond.methodLink "AddressHouse$Listing" (27 : Nat) ({ cls := "AddressHouse$Row", name := "<init>", desc := "(I)V" } : Jvm.MethodName) ∈ xw0 := List.mem_of_getElem? (i := 250) rfl
theorem k_251 : Jvm.Cond.fieldLink "AddressHouse$Listing" (19 : Nat) "AddressHouse$Listing" "body" "LAddressHouse$Row;" ∈ xw0 := List.mem_of_getElem? (i := 251) rfl
theorem k_252 : Jvm.Cond.fieldLink "AddressHouse" (171 : Nat) "AddressHouse$Listing" "body" "LAddressHouse$Row;" ∈ xw0 := List.mem_of_getElem? (i := 252) rfl
theorem k_253 : Jvm.Cond.fieldLink "AddressHouse$Listing" (30 : Nat) "AddressHouse$Listing" "data" "LAddressHouse$Row;" ∈ xw0 := List.mem_of_getElem? (i := 253) rfl
theorem k_254 : Jvm.Cond.fieldLink "AddressHouse" (180 : Nat) "AddressHouse$Listing" "data" "LAddressHouse$Row;" ∈ xw0 := List.mem_of_getElem? (i := 254) rfl
theorem k_255 : Jvm.Cond.fieldLink "AddressHouse$Listing" (33 : Nat) "AddressHouse$Listing" "asked" "[I" ∈ xw0 := List.mem_of_getElem? (i := 255) rfl
theorem k_256 : Jvm.Cond.fieldLink "AddressHouse$Listing" (37 : Nat) "AddressHouse$Listing" "codes" "[I" ∈ xw0 := List.mem_of_getElem? (i := 256) rfl
theorem k_257 : Jvm.Cond.fieldLink "AddressHouse" (146 : Nat) "AddressHouse$Listing" "dataElement" "I" ∈ xw0 := List.mem_of_getElem? (i := 257) rfl
theorem k_258 : Jvm.Cond.fieldLink "AddressHouse$Listing" (40 : Nat) "AddressHouse$Listing" "kinds" "[I" ∈ xw0 := List.mem_of_getElem? (i := 258) rfl
theorem k_259 : Jvm.Cond.fieldLink "AddressHouse$Listing" (43 : Nat) "AddressHouse$Listing" "indexes" "[I" ∈ xw0 := List.mem_of_getElem? (i := 259) rfl
theorem k_260 : Jvm.Cond.fieldLink "AddressHouse$Listing" (46 : Nat) "AddressHouse$Listing" "statuses" "[I" ∈ xw0 := List.mem_of_getElem? (i := 260) rfl
theorem k_261 : Jvm.Cond.fieldLink "AddressHouse" (168 : Nat) "AddressHouse$Listing" "entryCount" "I" ∈ xw0 := List.mem_of_getElem? (i := 261) rfl
theorem k_262 : Jvm.Cond.fieldLink "AddressHouse$Listing" (9 : Nat) "AddressHouse$Listing" "house" "LAddressHouse$House;" ∈ xw0 := List.mem_of_getElem? (i := 262) rfl
theorem k_263 : Jvm.Cond.fieldLink "AddressHouse$Listing" (15 : Nat) "AddressHouse$Listing" "xml" "LAddressHouse$Xml;" ∈ xw0 := List.mem_of_getElem? (i := 263) rfl
theorem k_264 : Jvm.Cond.fieldLink "AddressHouse$Listing" (51 : Nat) "AddressHouse$Listing" "name" "LAddressHouse$Row;" ∈ xw0 := List.mem_of_getElem? (i := 264) rfl
theorem k_265 : Jvm.Cond.laysFinal "AddressHouse$Listing" "AddressHouse$Listing" "body" "LAddressHouse$Row;" ∈ xw0 := List.mem_of_getElem? (i := 265) rfl
theorem k_266 : Jvm.Cond.laysFinal "AddressHouse$Listing" "AddressHouse$Listing" "data" "LAddressHouse$Row;" ∈ xw0 := List.mem_of_getElem? (i := 266) rfl
theorem k_267 : Jvm.Cond.lays "AddressHouse$Listing" "AddressHouse$Listing" "user" "I" ∈ xw0 := List.mem_of_getElem? (i := 267) rfl
theorem k_268 : Jvm.Cond.lays "AddressHouse$Listing" "AddressHouse$Listing" "book" "I" ∈ xw0 := List.mem_of_getElem? (i := 268) rfl
theorem k_269 : Jvm.Cond.lays "AddressHouse$Listing" "AddressHouse$Listing" "mode" "I" ∈ xw0 := List.mem_of_getElem? (i := 269) rfl
theorem k_270 : Jvm.Cond.laysFinal "AddressHouse$Listing" "AddressHouse$Listing" "asked" "[I" ∈ xw0 := List.mem_of_getElem? (i := 270) rfl
theorem k_271 : Jvm.Cond.laysFinal "AddressHouse$Listing" "AddressHouse$Listing" "codes" "[I" ∈ xw0 := List.mem_of_getElem? (i := 271) rfl
theorem k_272 : Jvm.Cond.lays "AddressHouse$Listing" "AddressHouse$Listing" "askedCount" "I" ∈ xw0 := List.mem_of_getElem? (i := 272) rfl
theorem k_273 : Jvm.Cond.lays "AddressHouse$Listing" "AddressHouse$Listing" "dataElement" "I" ∈ xw0 := List.mem_of_getElem? (i := 273) rfl
theorem k_274 : Jvm.Cond.laysFinal "AddressHouse$Listing" "AddressHouse$Listing" "kinds" "[I" ∈ xw0 := List.mem_of_getElem? (i := 274) rfl
theorem k_275 : Jvm.Cond.laysFinal "AddressHouse$Listing" "AddressHouse$Listing" "indexes" "[I" ∈ xw0 := List.mem_of_getElem? (i := 275) rfl
theorem k_276 : Jvm.Cond.laysFinal "AddressHouse$Listing" "AddressHouse$Listing" "statuses" "[I" ∈ xw0 := List.mem_of_getElem? (i := 276) rfl
theorem k_277 : Jvm.Cond.lays "AddressHouse$Listing" "AddressHouse$Listing" "entryCount" "I" ∈ xw0 := List.mem_of_getElem? (i := 277) rfl
theorem k_278 : Jvm.Cond.laysFinal "AddressHouse$Listing" "AddressHouse$Listing" "house" "LAddressHouse$House;" ∈ xw0 := List.mem_of_getElem? (i := 278) rfl
theorem k_279 : Jvm.Cond.laysFinal "AddressHouse$Listing" "AddressHouse$Listing" "xml" "LAddressHouse$Xml;" ∈ xw0 := List.mem_of_getElem? (i := 279) rfl
theorem k_280 : Jvm.Cond.laysFinal "AddressHouse$Listing" "AddressHouse$Listing" "name" "LAddressHouse$Row;" ∈ xw0 := List.mem_of_getElem? (i := 280) rfl
theorem k_281 : Jvm.Cond.superclass "AddressHouse$Listing" "java/lang/Object" ∈ xw0 := List.mem_of_getElem? (i := 281) rfl
theorem k_282 : Jvm.Cond.classLink "AddressHouse" (69 : Nat) "AddressHouse$Clerk" ∈ xw0 := List.mem_of_getElem? (i := 282) rfl
theorem k_283 : Jvm.Cond.instantiable "AddressHouse$Clerk" (18 : Nat) ∈ xw0 := List.mem_of_getElem? (i := 283) rfl
theorem k_284 : Jvm.Cond.methodLink "AddressHouse" (71 : Nat) ({ cls := "AddressHouse$Clerk", name := "<init>", desc := "(LAddressHouse$House;LAddressHouse$Listing;LAddressHouse$Card;LAddressHouse$Xml;)V" } : Jvm.MethodName) ∈ xw0 := List.mem_of_getElem? (i := 284) rfl
theorem k_285 : Jvm.Cond.instanceMethod ({ cls := "AddressHouse$Clerk", name := "<init>", desc := "(LAddressHouse$House;LAddressHouse$Listing;LAddressHouse$Card;LAddressHouse$Xml;)V" } : Jvm.MethodName) ∈ xw0 := List.mem_of_getElem? (i := 285) rfl
theorem k_286 : Jvm.Cond.code ({ cls := "AddressHouse$Clerk", name := "<init>", desc := "(LAddressHouse$House;LAddressHouse$Listing;LAddressHouse$Card;LAddressHouse$Xml;)V" } : Jvm.MethodName) prog_4_method_1_code (5 : Nat) (Option.none : Option Jvm.ClassFile.FieldType) ∈ xw0 := List.mem_of_getElem? (i := 286) rfl
theorem k_287 : Jvm.Cond.methodLink "AddressHouse$Clerk" (5 : Nat) ({ cls := "java/lang/Object", name := "<init>", desc := "()V" } : Jvm.MethodName) ∈ xw0 := List.mem_of_getElem? (i := 287) rfl
theorem k_288 : Jvm.Cond.classLink "AddressHouse$Clerk" (27 : Nat) "AddressHouse$Filter" ∈ xw0 := List.mem_of_getElem? (i := 288) rfl
theorem k_289 : Jvm.Cond.instantiable "AddressHouse$Filter" (9 : Nat) ∈ xw0 := List.mem_of_getElem? (i := 289) rfl
theorem k_290 : Jvm.Cond.methodLink "AddressHouse$Clerk" (29 : Nat) ({ cls := "AddressHouse$Filter", name := "<init>", desc := "(LAddressHouse$Xml;LAddressHouse$Card;)V" } : Jvm.MethodName) ∈ xw0 := List.mem_of_getElem? (i := 290) rfl
theorem k_291 : Jvm.Cond.instanceMethod ({ cls := "AddressHouse$Filter", name := "<init>", desc := "(LAddressHouse$Xml;LAddressHouse$Card;)V" } : Jvm.MethodName) ∈ xw0 := List.mem_of_getElem? (i := 291) rfl
theorem k_292 : Jvm.Cond.code ({ cls := "AddressHouse$Filter", name := "<init>", desc := "(LAddressHouse$Xml;LAddressHouse$Card;)V" } : Jvm.MethodName) prog_5_method_1_code (3 : Nat) (Option.none : Option Jvm.ClassFile.FieldType) ∈ xw0 := List.mem_of_getElem? (i := 292) rfl
theorem k_293 : Jvm.Cond.methodLink "AddressHouse$Filter" (3 : Nat) ({ cls := "java/lang/Object", name := "<init>", desc := "()V" } : Jvm.MethodName) ∈ xw0 := List.mem_of_getElem? (i := 293) rfl
theorem k_294 : Jvm.Cond.classLink "AddressHouse$Filter" (21 : Nat) "[[I" ∈ xw0 := List.mem_of_getElem? (i := 294) rfl
theorem k_295 : Jvm.Cond.classLink "AddressHouse$Filter" (29 : Nat) "AddressHouse$Row" ∈ xw0 := List.mem_of_getElem? (i := 295) rfl
theorem k_296 : Jvm.Cond.methodLink "AddressHouse$Filter" (33 : Nat) ({ cls := "AddressHouse$Row", name := "<init>", desc := "(I)V" } : Jvm.MethodName) ∈ xw0 := List.mem_of_getElem? (i := 296) rfl
theorem k_297 : Jvm.Cond.fieldLink "AddressHouse$Filter" (9 : Nat) "AddressHouse$Filter" "xml" "LAddressHouse$Xml;" ∈ xw0 := List.mem_of_getElem? (i := 297) rfl
theorem k_298 : Jvm.Cond.fieldLink "AddressHouse$Filter" (15 : Nat) "AddressHouse$Filter" "card" "LAddressHouse$Card;" ∈ xw0 := List.mem_of_getElem? (i := 298) rfl
theorem k_299 : Jvm.Cond.fieldLink "AddressHouse$Filter" (23 : Nat) "AddressHouse$Filter" "filters" "[[I" ∈ xw0 := List.mem_of_getElem? (i := 299) rfl
theorem k_300 : Jvm.Cond.fieldLink "AddressHouse$Filter" (26 : Nat) "AddressHouse$Filter" "tests" "[[I" ∈ xw0 := List.mem_of_getElem? (i := 300) rfl
theorem k_301 : Jvm.Cond.fieldLink "AddressHouse$Filter" (36 : Nat) "AddressHouse$Filter" "needles" "LAddressHouse$Row;" ∈ xw0 := List.mem_of_getElem? (i := 301) rfl
theorem k_302 : Jvm.Cond.fieldLink "AddressHouse$Filter" (40 : Nat) "AddressHouse$Filter" "value" "LAddressHouse$Row;" ∈ xw0 := List.mem_of_getElem? (i := 302) rfl
theorem k_303 : Jvm.Cond.laysFinal "AddressHouse$Filter" "AddressHouse$Filter" "xml" "LAddressHouse$Xml;" ∈ xw0 := List.mem_of_getElem? (i := 303) rfl
theorem k_304 : Jvm.Cond.laysFinal "AddressHouse$Filter" "AddressHouse$Filter" "card" "LAddressHouse$Card;" ∈ xw0 := List.mem_of_getElem? (i := 304) rfl
theorem k_305 : Jvm.Cond.laysFinal "AddressHouse$Filter" "AddressHouse$Filter" "filters" "[[I" ∈ xw0 := List.mem_of_getElem? (i := 305) rfl
theorem k_306 : Jvm.Cond.lays "AddressHouse$Filter" "AddressHouse$Filter" "filterCount" "I" ∈ xw0 := List.mem_of_getElem? (i := 306) rfl
theorem k_307 : Jvm.Cond.laysFinal "AddressHouse$Filter" "AddressHouse$Filter" "tests" "[[I" ∈ xw0 := List.mem_of_getElem? (i := 307) rfl
theorem k_308 : Jvm.Cond.lays "AddressHouse$Filter" "AddressHouse$Filter" "testCount" "I" ∈ xw0 := List.mem_of_getElem? (i := 308) rfl
theorem k_309 : Jvm.Cond.lays "AddressHouse$Filter" "AddressHouse$Filter" "all" "Z" ∈ xw0 := List.mem_of_getElem? (i := 309) rfl
theorem k_310 : Jvm.Cond.laysFinal "AddressHouse$Filter" "AddressHouse$Filter" "needles" "LAddressHouse$Row;" ∈ xw0 := List.mem_of_getElem? (i := 310) rfl
theorem k_311 : Jvm.Cond.laysFinal "AddressHouse$Filter" "AddressHouse$Filter" "value" "LAddressHouse$Row;" ∈ xw0 := List.mem_of_getElem? (i := 311) rfl
theorem k_312 : Jvm.Cond.superclass "AddressHouse$Filter" "java/lang/Object" ∈ xw0 := List.mem_of_getElem? (i := 312) rfl
theorem k_313 : Jvm.Cond.classLink "AddressHouse$Clerk" (36 : Nat) "AddressHouse$Row" ∈ xw0 := List.mem_of_getElem? (i := 313) rfl
theorem k_314 : Jvm.Cond.methodLink "AddressHouse$Clerk" (38 : Nat) ({ cls := "AddressHouse$Row", name := "<init>", desc := "(I)V" } : Jvm.MethodName) ∈ xw0 := List.mem_of_getElem? (i := 314) rfl
theorem k_315 : Jvm.Cond.fieldLink "AddressHouse" (131 : Nat) "AddressHouse$Clerk" "xmlRight" "Z" ∈ xw0 := List.mem_of_getElem? (i := 315) rfl
theorem k_316 : Jvm.Cond.fieldLink "AddressHouse" (162 : Nat) "AddressHouse$Clerk" "status" "I" ∈ xw0 := List.mem_of_getElem? (i := 316) rfl
theorem k_317 : Jvm.Cond.fieldLink "AddressHouse" (152 : Nat) "AddressHouse$Clerk" "page" "LAddressHouse$Row;" ∈ xw0 := List.mem_of_getElem? (i := 317) rfl
theorem k_318 : Jvm.Cond.fieldLink "AddressHouse" (155 : Nat) "AddressHouse$Clerk" "version" "I" ∈ xw0 := List.mem_of_getElem? (i := 318) rfl
theorem k_319 : Jvm.Cond.fieldLink "AddressHouse$Clerk" (11 : Nat) "AddressHouse$Clerk" "house" "LAddressHouse$House;" ∈ xw0 := List.mem_of_getElem? (i := 319) rfl
theorem k_320 : Jvm.Cond.fieldLink "AddressHouse$Clerk" (15 : Nat) "AddressHouse$Clerk" "listing" "LAddressHouse$Listing;" ∈ xw0 := List.mem_of_getElem? (i := 320) rfl
theorem k_321 : Jvm.Cond.fieldLink "AddressHouse$Clerk" (19 : Nat) "AddressHouse$Clerk" "card" "LAddressHouse$Card;" ∈ xw0 := List.mem_of_getElem? (i := 321) rfl
theorem k_322 : Jvm.Cond.fieldLink "AddressHouse$Clerk" (23 : Nat) "AddressHouse$Clerk" "xml" "LAddressHouse$Xml;" ∈ xw0 := List.mem_of_getElem? (i := 322) rfl
theorem k_323 : Jvm.Cond.fieldLink "AddressHouse$Clerk" (32 : Nat) "AddressHouse$Clerk" "filter" "LAddressHouse$Filter;" ∈ xw0 := List.mem_of_getElem? (i := 323) rfl
theorem k_324 : Jvm.Cond.fieldLink "AddressHouse$Clerk" (41 : Nat) "AddressHouse$Clerk" "told" "LAddressHouse$Row;" ∈ xw0 := List.mem_of_getElem? (i := 324) rfl
theorem k_325 : Jvm.Cond.fieldLink "AddressHouse$Clerk" (47 : Nat) "AddressHouse$Clerk" "plain" "LAddressHouse$Row;" ∈ xw0 := List.mem_of_getElem? (i := 325) rfl
theorem k_326 : Jvm.Cond.lays "AddressHouse$Clerk" "AddressHouse$Clerk" "xmlRight" "Z" ∈ xw0 := List.mem_of_getElem? (i := 326) rfl
theorem k_327 : Jvm.Cond.lays "AddressHouse$Clerk" "AddressHouse$Clerk" "status" "I" ∈ xw0 := List.mem_of_getElem? (i := 327) rfl
theorem k_328 : Jvm.Cond.lays "AddressHouse$Clerk" "AddressHouse$Clerk" "page" "LAddressHouse$Row;" ∈ xw0 := List.mem_of_getElem? (i := 328) rfl
theorem k_329 : Jvm.Cond.lays "AddressHouse$Clerk" "AddressHouse$Clerk" "version" "I" ∈ xw0 := List.mem_of_getElem? (i := 329) rfl
theorem k_330 : Jvm.Cond.laysFinal "AddressHouse$Clerk" "AddressHouse$Clerk" "house" "LAddressHouse$House;" ∈ xw0 := List.mem_of_getElem? (i := 330) rfl
theorem k_331 : Jvm.Cond.laysFinal "AddressHouse$Clerk" "AddressHouse$Clerk" "listing" "LAddressHouse$Listing;" ∈ xw0 := List.mem_of_getElem? (i := 331) rfl
theorem k_332 : Jvm.Cond.laysFinal "AddressHouse$Clerk" "AddressHouse$Clerk" "card" "LAddressHouse$Card;" ∈ xw0 := List.mem_of_getElem? (i := 332) rfl
theorem k_333 : Jvm.Cond.laysFinal "AddressHouse$Clerk" "AddressHouse$Clerk" "xml" "LAddressHouse$Xml;" ∈ xw0 := List.mem_of_getElem? (i := 333) rfl
theorem k_334 : Jvm.Cond.laysFinal "AddressHouse$Clerk" "AddressHouse$Clerk" "filter" "LAddressHouse$Filter;" ∈ xw0 := List.mem_of_getElem? (i := 334) rfl
theorem k_335 : Jvm.Cond.laysFinal "AddressHouse$Clerk" "AddressHouse$Clerk" "told" "LAddressHouse$Row;" ∈ xw0 := List.mem_of_getElem? (i := 335) rfl
theorem k_336 : Jvm.Cond.laysFinal "AddressHouse$Clerk" "AddressHouse$Clerk" "plain" "LAddressHouse$Row;" ∈ xw0 := List.mem_of_getElem? (i := 336) rfl
theorem k_337 : Jvm.Cond.lays "AddressHouse$Clerk" "AddressHouse$Clerk" "wire" "LAddressHouse$Wire;" ∈ xw0 := List.mem_of_getElem? (i := 337) rfl
theorem k_338 : Jvm.Cond.lays "AddressHouse$Clerk" "AddressHouse$Clerk" "closing" "Z" ∈ xw0 := List.mem_of_getElem? (i := 338) rfl
theorem k_339 : Jvm.Cond.lays "AddressHouse$Clerk" "AddressHouse$Clerk" "type" "I" ∈ xw0 := List.mem_of_getElem? (i := 339) rfl
theorem k_340 : Jvm.Cond.lays "AddressHouse$Clerk" "AddressHouse$Clerk" "method" "I" ∈ xw0 := List.mem_of_getElem? (i := 340) rfl
theorem k_341 : Jvm.Cond.lays "AddressHouse$Clerk" "AddressHouse$Clerk" "user" "I" ∈ xw0 := List.mem_of_getElem? (i := 341) rfl
theorem k_342 : Jvm.Cond.lays "AddressHouse$Clerk" "AddressHouse$Clerk" "querying" "Z" ∈ xw0 := List.mem_of_getElem? (i := 342) rfl
theorem k_343 : Jvm.Cond.lays "AddressHouse$Clerk" "AddressHouse$Clerk" "tail" "I" ∈ xw0 := List.mem_of_getElem? (i := 343) rfl
theorem k_344 : Jvm.Cond.superclass "AddressHouse$Clerk" "java/lang/Object" ∈ xw0 := List.mem_of_getElem? (i := 344) rfl
theorem k_345 : Jvm.Cond.fieldLink "AddressHouse" (14 : Nat) "AddressHouse" "tape" "LAddressHouse$Row;" ∈ xw0 := List.mem_of_getElem? (i := 345) rfl
theorem k_346 : Jvm.Cond.fieldLink "AddressHouse" (19 : Nat) "AddressHouse" "answers" "LAddressHouse$Row;" ∈ xw0 := List.mem_of_getElem? (i := 346) rfl
theorem k_347 : Jvm.Cond.fieldLink "AddressHouse" (24 : Nat) "AddressHouse" "wires" "[LAddressHouse$Wire;" ∈ xw0 := List.mem_of_getElem? (i := 347) rfl
theorem k_348 : Jvm.Cond.fieldLink "AddressHouse" (32 : Nat) "AddressHouse" "house" "LAddressHouse$House;" ∈ xw0 := List.mem_of_getElem? (i := 348) rfl
theorem k_349 : Jvm.Cond.fieldLink "AddressHouse" (39 : Nat) "AddressHouse" "card" "LAddressHouse$Card;" ∈ xw0 := List.mem_of_getElem? (i := 349) rfl
theorem k_350 : Jvm.Cond.fieldLink "AddressHouse" (55 : Nat) "AddressHouse" "scribe" "LAddressHouse$Scribe;" ∈ xw0 := List.mem_of_getElem? (i := 350) rfl
theorem k_351 : Jvm.Cond.fieldLink "AddressHouse" (46 : Nat) "AddressHouse" "xml" "LAddressHouse$Xml;" ∈ xw0 := List.mem_of_getElem? (i := 351) rfl
theorem k_352 : Jvm.Cond.fieldLink "AddressHouse" (65 : Nat) "AddressHouse" "listing" "LAddressHouse$Listing;" ∈ xw0 := List.mem_of_getElem? (i := 352) rfl
theorem k_353 : Jvm.Cond.fieldLink "AddressHouse" (74 : Nat) "AddressHouse" "clerk" "LAddressHouse$Clerk;" ∈ xw0 := List.mem_of_getElem? (i := 353) rfl
theorem k_354 : Jvm.Cond.laysFinal "AddressHouse" "AddressHouse" "tape" "LAddressHouse$Row;" ∈ xw0 := List.mem_of_getElem? (i := 354) rfl
theorem k_355 : Jvm.Cond.laysFinal "AddressHouse" "AddressHouse" "answers" "LAddressHouse$Row;" ∈ xw0 := List.mem_of_getElem? (i := 355) rfl
theorem k_356 : Jvm.Cond.laysFinal "AddressHouse" "AddressHouse" "wires" "[LAddressHouse$Wire;" ∈ xw0 := List.mem_of_getElem? (i := 356) rfl
theorem k_357 : Jvm.Cond.laysFinal "AddressHouse" "AddressHouse" "house" "LAddressHouse$House;" ∈ xw0 := List.mem_of_getElem? (i := 357) rfl
theorem k_358 : Jvm.Cond.laysFinal "AddressHouse" "AddressHouse" "card" "LAddressHouse$Card;" ∈ xw0 := List.mem_of_getElem? (i := 358) rfl
theorem k_359 : Jvm.Cond.laysFinal "AddressHouse" "AddressHouse" "scribe" "LAddressHouse$Scribe;" ∈ xw0 := List.mem_of_getElem? (i := 359) rfl
theorem k_360 : Jvm.Cond.laysFinal "AddressHouse" "AddressHouse" "xml" "LAddressHouse$Xml;" ∈ xw0 := List.mem_of_getElem? (i := 360) rfl
theorem k_361 : Jvm.Cond.laysFinal "AddressHouse" "AddressHouse" "listing" "LAddressHouse$Listing;" ∈ xw0 := List.mem_of_getElem? (i := 361) rfl
theorem k_362 : Jvm.Cond.laysFinal "AddressHouse" "AddressHouse" "clerk" "LAddressHouse$Clerk;" ∈ xw0 := List.mem_of_getElem? (i := 362) rfl
theorem k_363 : Jvm.Cond.superclass "AddressHouse" "java/lang/Object" ∈ xw0 := List.mem_of_getElem? (i := 363) rfl
theorem k_364 : Jvm.Cond.instanceMethod ({ cls := "AddressHouse", name := "feed", desc := "(IIIII)Z" } : Jvm.MethodName) ∈ xw0 := List.mem_of_getElem? (i := 364) rfl
theorem k_365 : Jvm.Cond.selects "AddressHouse" ({ cls := "AddressHouse", name := "feed", desc := "(IIIII)Z" } : Jvm.MethodName) ({ cls := "AddressHouse", name := "feed", desc := "(IIIII)Z" } : Jvm.MethodName) ∈ xw0 := List.mem_of_getElem? (i := 365) rfl
theorem k_366 : Jvm.Cond.code ({ cls := "AddressHouse", name := "feed", desc := "(IIIII)Z" } : Jvm.MethodName) prog_1_method_2_code (6 : Nat) (Option.some Jvm.ClassFile.FieldType.boolean) ∈ xw0 := List.mem_of_getElem? (i := 366) rfl
theorem k_367 : Jvm.Cond.methodLink "AddressHouse" (82 : Nat) ({ cls := "AddressHouse$Row", name := "four", desc := "(I)V" } : Jvm.MethodName) ∈ xw0 := List.mem_of_getElem? (i := 367) rfl
theorem k_368 : Jvm.Cond.instanceMethod ({ cls := "AddressHouse$Row", name := "four", desc := "(I)V" } : Jvm.MethodName) ∈ xw0 := List.mem_of_getElem? (i := 368) rfl
theorem k_369 : Jvm.Cond.selects "AddressHouse$Row" ({ cls := "AddressHouse$Row", name := "four", desc := "(I)V" } : Jvm.MethodName) ({ cls := "AddressHouse$Row", name := "four", desc := "(I)V" } : Jvm.MethodName) ∈ xw0 := List.mem_of_getElem? (i := 369) rfl
theorem k_370 : Jvm.Cond.code ({ cls := "AddressHouse$Row", name := "four", desc := "(I)V" } : Jvm.MethodName) prog_9_method_6_code (2 : Nat) (Option.none : Option Jvm.ClassFile.FieldType) ∈ xw0 := List.mem_of_getElem? (i := 370) rfl
theorem k_371 : Jvm.Cond.methodLink "AddressHouse$Row" (23 : Nat) ({ cls := "AddressHouse$Row", name := "put", desc := "(I)V" } : Jvm.MethodName) ∈ xw0 := List.mem_of_getElem? (i := 371) rfl
theorem k_372 : Jvm.Cond.instanceMethod ({ cls := "AddressHouse$Row", name := "put", desc := "(I)V" } : Jvm.MethodName) ∈ xw0 := List.mem_of_getElem? (i := 372) rfl
theorem k_373 : Jvm.Cond.selects "AddressHouse$Row" ({ cls := "AddressHouse$Row", name := "put", desc := "(I)V" } : Jvm.MethodName) ({ cls := "AddressHouse$Row", name := "put", desc := "(I)V" } : Jvm.MethodName) ∈ xw0 := List.mem_of_getElem? (i := 373) rfl
theorem k_374 : Jvm.Cond.code ({ cls := "AddressHouse$Row", name := "put", desc := "(I)V" } : Jvm.MethodName) prog_9_method_5_code (2 : Nat) (Option.none : Option Jvm.ClassFile.FieldType) ∈ xw0 := List.mem_of_getElem? (i := 374) rfl
theorem k_375 : Jvm.Cond.instanceMethod ({ cls := "AddressHouse", name := "end", desc := "(I)Z" } : Jvm.MethodName) ∈ xw0 := List.mem_of_getElem? (i := 375) rfl
theorem k_376 : Jvm.Cond.selects "AddressHouse" ({ cls := "AddressHouse", name := "end", desc := "(I)Z" } : Jvm.MethodName) ({ cls := "AddressHouse", name := "end", desc := "(I)Z" } : Jvm.MethodName) ∈ xw0 := List.mem_of_getElem? (i := 376) rfl
theorem k_377 : Jvm.Cond.code ({ cls := "AddressHouse", name := "end", desc := "(I)Z" } : Jvm.MethodName) prog_1_method_3_code (2 : Nat) (Option.some Jvm.ClassFile.FieldType.boolean) ∈ xw0 := List.mem_of_getElem? (i := 377) rfl
theorem k_378 : Jvm.Cond.methodLink "AddressHouse" (85 : Nat) ({ cls := "AddressHouse$Row", name := "cutTo", desc := "(I)V" } : Jvm.MethodName) ∈ xw0 := List.mem_of_getElem? (i := 378) rfl
theorem k_379 : Jvm.Cond.instanceMethod ({ cls := "AddressHouse$Row", name := "cutTo", desc := "(I)V" } : Jvm.MethodName) ∈ xw0 := List.mem_of_getElem? (i := 379) rfl
theorem k_380 : Jvm.Cond.selects "AddressHouse$Row" ({ cls := "AddressHouse$Row", name := "cutTo", desc := "(I)V" } : Jvm.MethodName) ({ cls := "AddressHouse$Row", name := "cutTo", desc := "(I)V" } : Jvm.MethodName) ∈ xw0 := List.mem_of_getElem? (i := 380) rfl
theorem k_381 : Jvm.Cond.code ({ cls := "AddressHouse$Row", name := "cutTo", desc := "(I)V" } : Jvm.MethodName) prog_9_method_3_code (2 : Nat) (Option.none : Option Jvm.ClassFile.FieldType) ∈ xw0 := List.mem_of_getElem? (i := 381) rfl
theorem k_382 : Jvm.Cond.instanceMethod ({ cls := "AddressHouse", name := "user", desc := "()I" } : Jvm.MethodName) ∈ xw0 := List.mem_of_getElem? (i := 382) rfl
theorem k_383 : Jvm.Cond.selects "AddressHouse" ({ cls := "AddressHouse", name := "user", desc := "()I" } : Jvm.MethodName) ({ cls := "AddressHouse", name := "user", desc := "()I" } : Jvm.MethodName) ∈ xw0 := List.mem_of_getElem? (i := 383) rfl
theorem k_384 : Jvm.Cond.code ({ cls := "AddressHouse", name := "user", desc := "()I" } : Jvm.MethodName) prog_1_method_4_code (2 : Nat) (Option.some Jvm.ClassFile.FieldType.int) ∈ xw0 := List.mem_of_getElem? (i := 384) rfl
theorem k_385 : Jvm.Cond.methodLink "AddressHouse" (88 : Nat) ({ cls := "AddressHouse$House", name := "addUser", desc := "(LAddressHouse$Row;)I" } : Jvm.MethodName) ∈ xw0 := List.mem_of_getElem? (i := 385) rfl
theorem k_386 : Jvm.Cond.instanceMethod ({ cls := "AddressHouse$House", name := "addUser", desc := "(LAddressHouse$Row;)I" } : Jvm.MethodName) ∈ xw0 := List.mem_of_getElem? (i := 386) rfl
theorem k_387 : Jvm.Cond.selects "AddressHouse$House" ({ cls := "AddressHouse$House", name := "addUser", desc := "(LAddressHouse$Row;)I" } : Jvm.MethodName) ({ cls := "AddressHouse$House", name := "addUser", desc := "(LAddressHouse$Row;)I" } : Jvm.MethodName) ∈ xw0 := List.mem_of_getElem? (i := 387) rfl
theorem k_388 : Jvm.Cond.code ({ cls := "AddressHouse$House", name := "addUser", desc := "(LAddressHouse$Row;)I" } : Jvm.MethodName) prog_6_method_2_code (5 : Nat) (Option.some Jvm.ClassFile.FieldType.int) ∈ xw0 := List.mem_of_getElem? (i := 388) rfl
theorem k_389 : Jvm.Cond.methodLink "AddressHouse$House" (62 : Nat) ({ cls := "AddressHouse$Row", name := "at", desc := "(I)I" } : Jvm.MethodName) ∈ xw0 := List.mem_of_getElem? (i := 389) rfl
theorem k_390 : Jvm.Cond.instanceMethod ({ cls := "AddressHouse$Row", name := "at", desc := "(I)I" } : Jvm.MethodName) ∈ xw0 := List.mem_of_getElem? (i := 390) rfl
theorem k_391 : Jvm.Cond.selects "AddressHouse$Row" ({ cls := "AddressHouse$Row", name := "at", desc := "(I)I" } : Jvm.MethodName) ({ cls := "AddressHouse$Row", name := "at", desc := "(I)I" } : Jvm.MethodName) ∈ xw0 := List.mem_of_getElem? (i := 391) rfl
theorem k_392 : Jvm.Cond.code ({ cls := "AddressHouse$Row", name := "at", desc := "(I)I" } : Jvm.MethodName) prog_9_method_4_code (2 : Nat) (Option.some Jvm.ClassFile.FieldType.int) ∈ xw0 := List.mem_of_getElem? (i := 392) rfl
theorem k_393 : Jvm.Cond.methodLink "AddressHouse$House" (69 : Nat) ({ cls := "AddressHouse$House", name := "userNamed", desc := "(LAddressHouse$Row;II)I" } : Jvm.MethodName) ∈ xw0 := List.mem_of_getElem? (i := 393) rfl
theorem k_394 : Jvm.Cond.methodLink "AddressHouse$House" (73 : Nat) ({ cls := "AddressHouse$Row", name := "copy", desc := "(LAddressHouse$Row;II)V" } : Jvm.MethodName) ∈ xw0 := List.mem_of_getElem? (i := 394) rfl
theorem k_395 : Jvm.Cond.methodLink "AddressHouse" (92 : Nat) ({ cls := "AddressHouse$Row", name := "clear", desc := "()V" } : Jvm.MethodName) ∈ xw0 := List.mem_of_getElem? (i := 395) rfl
theorem k_396 : Jvm.Cond.instanceMethod ({ cls := "AddressHouse$Row", name := "clear", desc := "()V" } : Jvm.MethodName) ∈ xw0 := List.mem_of_getElem? (i := 396) rfl
theorem k_397 : Jvm.Cond.selects "AddressHouse$Row" ({ cls := "AddressHouse$Row", name := "clear", desc := "()V" } : Jvm.MethodName) ({ cls := "AddressHouse$Row", name := "clear", desc := "()V" } : Jvm.MethodName) ∈ xw0 := List.mem_of_getElem? (i := 397) rfl
theorem k_398 : Jvm.Cond.code ({ cls := "AddressHouse$Row", name := "clear", desc := "()V" } : Jvm.MethodName) prog_9_method_2_code (1 : Nat) (Option.none : Option Jvm.ClassFile.FieldType) ∈ xw0 := List.mem_of_getElem? (i := 398) rfl
theorem k_399 : Jvm.Cond.instanceMethod ({ cls := "AddressHouse", name := "open", desc := "()I" } : Jvm.MethodName) ∈ xw0 := List.mem_of_getElem? (i := 399) rfl
theorem k_400 : Jvm.Cond.selects "AddressHouse" ({ cls := "AddressHouse", name := "open", desc := "()I" } : Jvm.MethodName) ({ cls := "AddressHouse", name := "open", desc := "()I" } : Jvm.MethodName) ∈ xw0 := List.mem_of_getElem? (i := 400) rfl
theorem k_401 : Jvm.Cond.code ({ cls := "AddressHouse", name := "open", desc := "()I" } : Jvm.MethodName) prog_1_method_5_code (2 : Nat) (Option.some Jvm.ClassFile.FieldType.int) ∈ xw0 := List.mem_of_getElem? (i := 401) rfl
theorem k_402 : Jvm.Cond.methodLink "AddressHouse" (99 : Nat) ({ cls := "AddressHouse$Wire", name := "next", desc := "()V" } : Jvm.MethodName) ∈ xw0 := List.mem_of_getElem? (i := 402) rfl
theorem k_403 : Jvm.Cond.instanceMethod ({ cls := "AddressHouse$Wire", name := "next", desc := "()V" } : Jvm.MethodName) ∈ xw0 := List.mem_of_getElem? (i := 403) rfl
theorem k_404 : Jvm.Cond.selects "AddressHouse$Wire" ({ cls := "AddressHouse$Wire", name := "next", desc := "()V" } : Jvm.MethodName) ({ cls := "AddressHouse$Wire", name := "next", desc := "()V" } : Jvm.MethodName) ∈ xw0 := List.mem_of_getElem? (i := 404) rfl
theorem k_405 : Jvm.Cond.code ({ cls := "AddressHouse$Wire", name := "next", desc := "()V" } : Jvm.MethodName) prog_11_method_2_code (1 : Nat) (Option.none : Option Jvm.ClassFile.FieldType) ∈ xw0 := List.mem_of_getElem? (i := 405) rfl
theorem k_406 : Jvm.Cond.methodLink "AddressHouse$Wire" (30 : Nat) ({ cls := "AddressHouse$Row", name := "clear", desc := "()V" } : Jvm.MethodName) ∈ xw0 := List.mem_of_getElem? (i := 406) rfl
theorem k_407 : Jvm.Cond.instanceMethod ({ cls := "AddressHouse", name := "isOpen", desc := "(I)Z" } : Jvm.MethodName) ∈ xw0 := List.mem_of_getElem? (i := 407) rfl
theorem k_408 : Jvm.Cond.selects "AddressHouse" ({ cls := "AddressHouse", name := "isOpen", desc := "(I)Z" } : Jvm.MethodName) ({ cls := "AddressHouse", name := "isOpen", desc := "(I)Z" } : Jvm.MethodName) ∈ xw0 := List.mem_of_getElem? (i := 408) rfl
theorem k_409 : Jvm.Cond.code ({ cls := "AddressHouse", name := "isOpen", desc := "(I)Z" } : Jvm.MethodName) prog_1_method_7_code (2 : Nat) (Option.some Jvm.ClassFile.FieldType.boolean) ∈ xw0 := List.mem_of_getElem? (i := 409) rfl
theorem k_410 : Jvm.Cond.instanceMethod ({ cls := "AddressHouse", name := "shut", desc := "(I)Z" } : Jvm.MethodName) ∈ xw0 := List.mem_of_getElem? (i := 410) rfl
theorem k_411 : Jvm.Cond.selects "AddressHouse" ({ cls := "AddressHouse", name := "shut", desc := "(I)Z" } : Jvm.MethodName) ({ cls := "AddressHouse", name := "shut", desc := "(I)Z" } : Jvm.MethodName) ∈ xw0 := List.mem_of_getElem? (i := 411) rfl
theorem k_412 : Jvm.Cond.code ({ cls := "AddressHouse", name := "shut", desc := "(I)Z" } : Jvm.MethodName) prog_1_method_8_code (2 : Nat) (Option.some Jvm.ClassFile.FieldType.boolean) ∈ xw0 := List.mem_of_getElem? (i := 412) rfl
theorem k_413 : Jvm.Cond.methodLink "AddressHouse" (102 : Nat) ({ cls := "AddressHouse", name := "isOpen", desc := "(I)Z" } : Jvm.MethodName) ∈ xw0 := List.mem_of_getElem? (i := 413) rfl
theorem k_414 : Jvm.Cond.instanceMethod ({ cls := "AddressHouse", name := "out", desc := "()I" } : Jvm.MethodName) ∈ xw0 := List.mem_of_getElem? (i := 414) rfl
theorem k_415 : Jvm.Cond.selects "AddressHouse" ({ cls := "AddressHouse", name := "out", desc := "()I" } : Jvm.MethodName) ({ cls := "AddressHouse", name := "out", desc := "()I" } : Jvm.MethodName) ∈ xw0 := List.mem_of_getElem? (i := 415) rfl
theorem k_416 : Jvm.Cond.code ({ cls := "AddressHouse", name := "out", desc := "()I" } : Jvm.MethodName) prog_1_method_9_code (1 : Nat) (Option.some Jvm.ClassFile.FieldType.int) ∈ xw0 := List.mem_of_getElem? (i := 416) rfl
theorem k_417 : Jvm.Cond.instanceMethod ({ cls := "AddressHouse", name := "turn", desc := "(I)I" } : Jvm.MethodName) ∈ xw0 := List.mem_of_getElem? (i := 417) rfl
theorem k_418 : Jvm.Cond.selects "AddressHouse" ({ cls := "AddressHouse", name := "turn", desc := "(I)I" } : Jvm.MethodName) ({ cls := "AddressHouse", name := "turn", desc := "(I)I" } : Jvm.MethodName) ∈ xw0 := List.mem_of_getElem? (i := 418) rfl
theorem k_419 : Jvm.Cond.code ({ cls := "AddressHouse", name := "turn", desc := "(I)I" } : Jvm.MethodName) prog_1_method_11_code (3 : Nat) (Option.some Jvm.ClassFile.FieldType.int) ∈ xw0 := List.mem_of_getElem? (i := 419) rfl
theorem k_420 : Jvm.Cond.methodLink "AddressHouse" (194 : Nat) ({ cls := "AddressHouse$Card", name := "read", desc := "(LAddressHouse$Row;)Z" } : Jvm.MethodName) ∈ xw0 := List.mem_of_getElem? (i := 420) rfl
theorem k_421 : Jvm.Cond.instanceMethod ({ cls := "AddressHouse$Card", name := "read", desc := "(LAddressHouse$Row;)Z" } : Jvm.MethodName) ∈ xw0 := List.mem_of_getElem? (i := 421) rfl
theorem k_422 : Jvm.Cond.selects "AddressHouse$Card" ({ cls := "AddressHouse$Card", name := "read", desc := "(LAddressHouse$Row;)Z" } : Jvm.MethodName) ({ cls := "AddressHouse$Card", name := "read", desc := "(LAddressHouse$Row;)Z" } : Jvm.MethodName) ∈ xw0 := List.mem_of_getElem? (i := 422) rfl
theorem k_423 : Jvm.Cond.code ({ cls := "AddressHouse$Card", name := "read", desc := "(LAddressHouse$Row;)Z" } : Jvm.MethodName) prog_3_method_2_code (7 : Nat) (Option.some Jvm.ClassFile.FieldType.boolean) ∈ xw0 := List.mem_of_getElem? (i := 423) rfl
theorem k_424 : Jvm.Cond.methodLink "AddressHouse$Card" (38 : Nat) ({ cls := "AddressHouse$Card", name := "unfold", desc := "(LAddressHouse$Row;)V" } : Jvm.MethodName) ∈ xw0 := List.mem_of_getElem? (i := 424) rfl
theorem k_425 : Jvm.Cond.instanceMethod ({ cls := "AddressHouse$Card", name := "unfold", desc := "(LAddressHouse$Row;)V" } : Jvm.MethodName) ∈ xw0 := List.mem_of_getElem? (i := 425) rfl
theorem k_426 : Jvm.Cond.code ({ cls := "AddressHouse$Card", name := "unfold", desc := "(LAddressHouse$Row;)V" } : Jvm.MethodName) prog_3_method_3_code (4 : Nat) (Option.none : Option Jvm.ClassFile.FieldType) ∈ xw0 := List.mem_of_getElem? (i := 426) rfl
theorem k_427 : Jvm.Cond.methodLink "AddressHouse$Card" (78 : Nat) ({ cls := "AddressHouse$Row", name := "clear", desc := "()V" } : Jvm.MethodName) ∈ xw0 := List.mem_of_getElem? (i := 427) rfl
theorem k_428 : Jvm.Cond.methodLink "AddressHouse$Card" (60 : Nat) ({ cls := "AddressHouse$Row", name := "at", desc := "(I)I" } : Jvm.MethodName) ∈ xw0 := List.mem_of_getElem? (i := 428) rfl
theorem k_429 : Jvm.Cond.methodLink "AddressHouse$Card" (81 : Nat) ({ cls := "AddressHouse$Row", name := "put", desc := "(I)V" } : Jvm.MethodName) ∈ xw0 := List.mem_of_getElem? (i := 429) rfl
theorem k_430 : Jvm.Cond.methodLink "AddressHouse$Card" (55 : Nat) ({ cls := "AddressHouse$Card", name := "isClean", desc := "()Z" } : Jvm.MethodName) ∈ xw0 := List.mem_of_getElem? (i := 430) rfl
theorem k_431 : Jvm.Cond.instanceMethod ({ cls := "AddressHouse$Card", name := "isClean", desc := "()Z" } : Jvm.MethodName) ∈ xw0 := List.mem_of_getElem? (i := 431) rfl
theorem k_432 : Jvm.Cond.code ({ cls := "AddressHouse$Card", name := "isClean", desc := "()Z" } : Jvm.MethodName) prog_3_method_4_code (3 : Nat) (Option.some Jvm.ClassFile.FieldType.boolean) ∈ xw0 := List.mem_of_getElem? (i := 432) rfl
theorem k_433 : Jvm.Cond.methodLink "AddressHouse$Card" (84 : Nat) ({ cls := "AddressHouse$Row", name := "codeAt", desc := "(I)I" } : Jvm.MethodName) ∈ xw0 := List.mem_of_getElem? (i := 433) rfl
theorem k_434 : Jvm.Cond.methodLink "AddressHouse$Card" (87 : Nat) ({ cls := "AddressHouse$Row", name := "widthOf", desc := "(I)I" } : Jvm.MethodName) ∈ xw0 := List.mem_of_getElem? (i := 434) rfl
theorem k_435 : Jvm.Cond.methodLink "AddressHouse$Card" (64 : Nat) ({ cls := "AddressHouse$Card", name := "property", desc := "(II)Z" } : Jvm.MethodName) ∈ xw0 := List.mem_of_getElem? (i := 435) rfl
theorem k_436 : Jvm.Cond.methodLink "AddressHouse$Card" (68 : Nat) ({ cls := "AddressHouse$Card", name := "isBuilt", desc := "()Z" } : Jvm.MethodName) ∈ xw0 := List.mem_of_getElem? (i := 436) rfl
theorem k_437 : Jvm.Cond.methodLink "AddressHouse$Card" (71 : Nat) ({ cls := "AddressHouse$Card", name := "isFrame", desc := "(III)Z" } : Jvm.MethodName) ∈ xw0 := List.mem_of_getElem? (i := 437) rfl
theorem k_438 : Jvm.Cond.methodLink "AddressHouse$Card" (75 : Nat) ({ cls := "AddressHouse$Card", name := "isComplete", desc := "()Z" } : Jvm.MethodName) ∈ xw0 := List.mem_of_getElem? (i := 438) rfl
theorem k_439 : Jvm.Cond.methodLink "AddressHouse" (149 : Nat) ({ cls := "AddressHouse$Scribe", name := "pick", desc := "(I)V" } : Jvm.MethodName) ∈ xw0 := List.mem_of_getElem? (i := 439) rfl
theorem k_440 : Jvm.Cond.methodLink "AddressHouse" (158 : Nat) ({ cls := "AddressHouse$Scribe", name := "write", desc := "(ILAddressHouse$Row;)V" } : Jvm.MethodName) ∈ xw0 := List.mem_of_getElem? (i := 440) rfl
theorem k_441 : Jvm.Cond.instanceMethod ({ cls := "AddressHouse", name := "count", desc := "(I)I" } : Jvm.MethodName) ∈ xw0 := List.mem_of_getElem? (i := 441) rfl
theorem k_442 : Jvm.Cond.selects "AddressHouse" ({ cls := "AddressHouse", name := "count", desc := "(I)I" } : Jvm.MethodName) ({ cls := "AddressHouse", name := "count", desc := "(I)I" } : Jvm.MethodName) ∈ xw0 := List.mem_of_getElem? (i := 442) rfl
theorem k_443 : Jvm.Cond.code ({ cls := "AddressHouse", name := "count", desc := "(I)I" } : Jvm.MethodName) prog_1_method_12_code (2 : Nat) (Option.some Jvm.ClassFile.FieldType.int) ∈ xw0 := List.mem_of_getElem? (i := 443) rfl
theorem k_444 : Jvm.Cond.methodLink "AddressHouse" (195 : Nat) ({ cls := "AddressHouse$House", name := "bookCount", desc := "()I" } : Jvm.MethodName) ∈ xw0 := List.mem_of_getElem? (i := 444) rfl
theorem k_445 : Jvm.Cond.instanceMethod ({ cls := "AddressHouse$House", name := "bookCount", desc := "()I" } : Jvm.MethodName) ∈ xw0 := List.mem_of_getElem? (i := 445) rfl
theorem k_446 : Jvm.Cond.selects "AddressHouse$House" ({ cls := "AddressHouse$House", name := "bookCount", desc := "()I" } : Jvm.MethodName) ({ cls := "AddressHouse$House", name := "bookCount", desc := "()I" } : Jvm.MethodName) ∈ xw0 := List.mem_of_getElem? (i := 446) rfl
theorem k_447 : Jvm.Cond.code ({ cls := "AddressHouse$House", name := "bookCount", desc := "()I" } : Jvm.MethodName) prog_6_method_14_code (3 : Nat) (Option.some Jvm.ClassFile.FieldType.int) ∈ xw0 := List.mem_of_getElem? (i := 447) rfl
theorem k_448 : Jvm.Cond.methodLink "AddressHouse" (199 : Nat) ({ cls := "AddressHouse$House", name := "itemCount", desc := "()I" } : Jvm.MethodName) ∈ xw0 := List.mem_of_getElem? (i := 448) rfl
theorem k_449 : Jvm.Cond.instanceMethod ({ cls := "AddressHouse$House", name := "itemCount", desc := "()I" } : Jvm.MethodName) ∈ xw0 := List.mem_of_getElem? (i := 449) rfl
theorem k_450 : Jvm.Cond.selects "AddressHouse$House" ({ cls := "AddressHouse$House", name := "itemCount", desc := "()I" } : Jvm.MethodName) ({ cls := "AddressHouse$House", name := "itemCount", desc := "()I" } : Jvm.MethodName) ∈ xw0 := List.mem_of_getElem? (i := 450) rfl
theorem k_451 : Jvm.Cond.code ({ cls := "AddressHouse$House", name := "itemCount", desc := "()I" } : Jvm.MethodName) prog_6_method_15_code (3 : Nat) (Option.some Jvm.ClassFile.FieldType.int) ∈ xw0 := List.mem_of_getElem? (i := 451) rfl
theorem k_452 : Jvm.Cond.instanceMethod ({ cls := "AddressHouse", name := "come", desc := "(I)I" } : Jvm.MethodName) ∈ xw0 := List.mem_of_getElem? (i := 452) rfl
theorem k_453 : Jvm.Cond.selects "AddressHouse" ({ cls := "AddressHouse", name := "come", desc := "(I)I" } : Jvm.MethodName) ({ cls := "AddressHouse", name := "come", desc := "(I)I" } : Jvm.MethodName) ∈ xw0 := List.mem_of_getElem? (i := 453) rfl
theorem k_454 : Jvm.Cond.code ({ cls := "AddressHouse", name := "come", desc := "(I)I" } : Jvm.MethodName) prog_1_method_6_code (8 : Nat) (Option.some Jvm.ClassFile.FieldType.int) ∈ xw0 := List.mem_of_getElem? (i := 454) rfl
theorem k_455 : Jvm.Cond.classLink "AddressHouse" (106 : Nat) "java/lang/IllegalStateException" ∈ xw0 := List.mem_of_getElem? (i := 455) rfl
theorem k_456 : Jvm.Cond.methodLink "AddressHouse" (110 : Nat) ({ cls := "java/lang/IllegalStateException", name := "<init>", desc := "(Ljava/lang/String;)V" } : Jvm.MethodName) ∈ xw0 := List.mem_of_getElem? (i := 456) rfl
theorem k_457 : Jvm.Cond.methodLink "AddressHouse" (113 : Nat) ({ cls := "AddressHouse$Row", name := "at", desc := "(I)I" } : Jvm.MethodName) ∈ xw0 := List.mem_of_getElem? (i := 457) rfl
theorem k_458 : Jvm.Cond.methodLink "AddressHouse" (117 : Nat) ({ cls := "AddressHouse$Wire", name := "take", desc := "(I)I" } : Jvm.MethodName) ∈ xw0 := List.mem_of_getElem? (i := 458) rfl
theorem k_459 : Jvm.Cond.methodLink "AddressHouse" (120 : Nat) ({ cls := "AddressHouse$Clerk", name := "begin", desc := "(LAddressHouse$Wire;I)I" } : Jvm.MethodName) ∈ xw0 := List.mem_of_getElem? (i := 459) rfl
theorem k_460 : Jvm.Cond.methodLink "AddressHouse" (127 : Nat) ({ cls := "AddressHouse$Xml", name := "read", desc := "(LAddressHouse$Row;)Z" } : Jvm.MethodName) ∈ xw0 := List.mem_of_getElem? (i := 460) rfl
theorem k_461 : Jvm.Cond.methodLink "AddressHouse" (134 : Nat) ({ cls := "AddressHouse$Clerk", name := "keep", desc := "()V" } : Jvm.MethodName) ∈ xw0 := List.mem_of_getElem? (i := 461) rfl
theorem k_462 : Jvm.Cond.methodLink "AddressHouse" (137 : Nat) ({ cls := "AddressHouse$Clerk", name := "fetch", desc := "()V" } : Jvm.MethodName) ∈ xw0 := List.mem_of_getElem? (i := 462) rfl
theorem k_463 : Jvm.Cond.methodLink "AddressHouse" (140 : Nat) ({ cls := "AddressHouse$Clerk", name := "act", desc := "(I)V" } : Jvm.MethodName) ∈ xw0 := List.mem_of_getElem? (i := 463) rfl
theorem k_464 : Jvm.Cond.methodLink "AddressHouse" (143 : Nat) ({ cls := "AddressHouse$Clerk", name := "query", desc := "()V" } : Jvm.MethodName) ∈ xw0 := List.mem_of_getElem? (i := 464) rfl
theorem k_465 : Jvm.Cond.methodLink "AddressHouse" (165 : Nat) ({ cls := "AddressHouse$Listing", name := "start", desc := "()V" } : Jvm.MethodName) ∈ xw0 := List.mem_of_getElem? (i := 465) rfl
theorem k_466 : Jvm.Cond.methodLink "AddressHouse" (177 : Nat) ({ cls := "AddressHouse$Clerk", name := "bringsCard", desc := "(I)Z" } : Jvm.MethodName) ∈ xw0 := List.mem_of_getElem? (i := 466) rfl
theorem k_467 : Jvm.Cond.methodLink "AddressHouse" (183 : Nat) ({ cls := "AddressHouse$Listing", name := "response", desc := "(I)V" } : Jvm.MethodName) ∈ xw0 := List.mem_of_getElem? (i := 467) rfl
theorem k_468 : Jvm.Cond.methodLink "AddressHouse" (186 : Nat) ({ cls := "AddressHouse$Clerk", name := "give", desc := "(LAddressHouse$Row;)I" } : Jvm.MethodName) ∈ xw0 := List.mem_of_getElem? (i := 468) rfl
theorem k_469 : Jvm.Cond.instanceMethod ({ cls := "AddressHouse", name := "outAt", desc := "(I)I" } : Jvm.MethodName) ∈ xw0 := List.mem_of_getElem? (i := 469) rfl
theorem k_470 : Jvm.Cond.selects "AddressHouse" ({ cls := "AddressHouse", name := "outAt", desc := "(I)I" } : Jvm.MethodName) ({ cls := "AddressHouse", name := "outAt", desc := "(I)I" } : Jvm.MethodName) ∈ xw0 := List.mem_of_getElem? (i := 470) rfl
theorem k_471 : Jvm.Cond.code ({ cls := "AddressHouse", name := "outAt", desc := "(I)I" } : Jvm.MethodName) prog_1_method_10_code (3 : Nat) (Option.some Jvm.ClassFile.FieldType.int) ∈ xw0 := List.mem_of_getElem? (i := 471) rfl
theorem k_472 : Jvm.Cond.classLink "AddressHouse" (189 : Nat) "java/util/NoSuchElementException" ∈ xw0 := List.mem_of_getElem? (i := 472) rfl
theorem k_473 : Jvm.Cond.methodLink "AddressHouse" (193 : Nat) ({ cls := "java/util/NoSuchElementException", name := "<init>", desc := "(Ljava/lang/String;)V" } : Jvm.MethodName) ∈ xw0 := List.mem_of_getElem? (i := 473) rfl
theorem k_474 : Jvm.Cond.arrayClass Jvm.ClassFile.FieldType.boolean ∈ xw0 := List.mem_of_getElem? (i := 474) rfl
theorem k_475 : Jvm.Cond.arrayClass Jvm.ClassFile.FieldType.long ∈ xw0 := List.mem_of_getElem? (i := 475) rfl
theorem k_476 : Jvm.Cond.selects "AddressHouse$Card" ({ cls := "AddressHouse$Card", name := "unfold", desc := "(LAddressHouse$Row;)V" } : Jvm.MethodName) ({ cls := "AddressHouse$Card", name := "unfold", desc := "(LAddressHouse$Row;)V" } : Jvm.MethodName) ∈ xw0 := List.mem_of_getElem? (i := 476) rfl
theorem k_477 : Jvm.Cond.selects "AddressHouse$Card" ({ cls := "AddressHouse$Card", name := "isClean", desc := "()Z" } : Jvm.MethodName) ({ cls := "AddressHouse$Card", name := "isClean", desc := "()Z" } : Jvm.MethodName) ∈ xw0 := List.mem_of_getElem? (i := 477) rfl
theorem xw0_0_ok : ∀ w ∈ xw0_0, goodWord w = true := List.all_eq_true.mp (show xw0_0.all goodWord = true by unfold xw0_0; rfl)
theorem xw0_1_ok : ∀ w ∈ xw0_1, goodWord w = true := List.all_eq_true.mp (show xw0_1.all goodWord = true by unfold xw0_1; rfl)
theorem xw0_2_ok : ∀ w ∈ xw0_2, goodWord w = true := List.all_eq_true.mp (show xw0_2.all goodWord = true by unfold xw0_2; rfl)
theorem xw0_3_ok : ∀ w ∈ xw0_3, goodWord w = true := List.all_eq_true.mp (show xw0_3.all goodWord = true by unfold xw0_3; rfl)
theorem xw0_4_ok : ∀ w ∈ xw0_4, goodWord w = true := List.all_eq_true.mp (show xw0_4.all goodWord = true by unfold xw0_4; rfl)
theorem xw0_5_ok : ∀ w ∈ xw0_5, goodWord w = true := List.all_eq_true.mp (show xw0_5.all goodWord = true by unfold xw0_5; rfl)
theorem xw0_6_ok : ∀ w ∈ xw0_6, goodWord w = true := List.all_eq_true.mp (show xw0_6.all goodWord = true by unfold xw0_6; rfl)
theorem xw0_7_ok : ∀ w ∈ xw0_7, goodWord w = true := List.all_eq_true.mp (show xw0_7.all goodWord = true by unfold xw0_7; rfl)
theorem xw0_8_ok : ∀ w ∈ xw0_8, goodWord w = true := List.all_eq_true.mp (show xw0_8.all goodWord = true by unfold xw0_8; rfl)
theorem xw0_9_ok : ∀ w ∈ xw0_9, goodWord w = true := List.all_eq_true.mp (show xw0_9.all goodWord = true by unfold xw0_9; rfl)
theorem xw0_all : ∀ w ∈ xw0, goodWord w = true := List.forall_mem_append.mpr ⟨xw0_0_ok, List.forall_mem_append.mpr ⟨xw0_1_ok, List.forall_mem_append.mpr ⟨xw0_2_ok, List.forall_mem_append.mpr ⟨xw0_3_ok, List.forall_mem_append.mpr ⟨xw0_4_ok, List.forall_mem_append.mpr ⟨xw0_5_ok, List.forall_mem_append.mpr ⟨xw0_6_ok, List.forall_mem_append.mpr ⟨xw0_7_ok, List.forall_mem_append.mpr ⟨xw0_8_ok, xw0_9_ok⟩⟩⟩⟩⟩⟩⟩⟩⟩
theorem xw_good {w0 : Cond} (h : w0 ∈ xw0) : GoodIn xw0 (w0 :: xw0) := by
  intro w hw
  have hm : w ∈ xw0 := by
    rcases List.mem_cons.mp hw with e | e
    · rw [e]; exact h
    · exact e
  exact ⟨hm, good_of_word (xw0_all w hm)⟩
theorem i_Row : ∀ w ∈ u_ws R_Row F_Row 3, w ∈ xw0 := by decide +kernel
theorem i_Wire : ∀ w ∈ u_ws R_Wire F_Wire 11, w ∈ xw0 := by decide +kernel
theorem i_Book : ∀ w ∈ u_ws R_Book F_Book 13, w ∈ xw0 := by decide +kernel
theorem i_Item : ∀ w ∈ u_ws R_Item F_Item 5, w ∈ xw0 := by decide +kernel
theorem i_House : ∀ w ∈ u_ws R_House F_House 17, w ∈ xw0 := by decide +kernel
theorem i_Card : ∀ w ∈ u_ws R_Card F_Card 10, w ∈ xw0 := by decide +kernel
theorem i_Xml : ∀ w ∈ u_ws R_Xml F_Xml 17, w ∈ xw0 := by decide +kernel
theorem i_Scribe : ∀ w ∈ u_ws R_Scribe F_Scribe 9, w ∈ xw0 := by decide +kernel
theorem i_Filter : ∀ w ∈ u_ws R_Filter F_Filter 9, w ∈ xw0 := by decide +kernel
theorem i_Listing : ∀ w ∈ u_ws R_Listing F_Listing 16, w ∈ xw0 := by decide +kernel
theorem i_Clerk : ∀ w ∈ u_ws R_Clerk F_Clerk 18, w ∈ xw0 := by decide +kernel
theorem i_Top : ∀ w ∈ u_ws R_Top F_Top 9, w ∈ xw0 := by decide +kernel
def R_Model : String := "AddressHouseModel"
def L_Model : List (String × String × String × Bool) := [("AddressHouseModel", "thrown", "I", false), ("AddressHouseModel", "tape", "[B", true), ("AddressHouseModel", "taped", "I", false), ("AddressHouseModel", "cons", "[B", true), ("AddressHouseModel", "conLen", "[I", true), ("AddressHouseModel", "isUp", "[Z", true), ("AddressHouseModel", "outs", "[B", true), ("AddressHouseModel", "outLen", "I", false), ("AddressHouseModel", "users", "I", false), ("AddressHouseModel", "userName", "[B", true), ("AddressHouseModel", "userNameLen", "[I", true), ("AddressHouseModel", "userPass", "[B", true), ("AddressHouseModel", "userPassLen", "[I", true), ("AddressHouseModel", "bookThere", "[Z", true), ("AddressHouseModel", "bookOwner", "[I", true), ("AddressHouseModel", "bookName", "[B", true), ("AddressHouseModel", "bookNameLen", "[I", true), ("AddressHouseModel", "bookMade", "[I", true), ("AddressHouseModel", "bookTitle", "[B", true), ("AddressHouseModel", "bookTitleLen", "[I", true), ("AddressHouseModel", "bookAbout", "[B", true), ("AddressHouseModel", "bookAboutLen", "[I", true), ("AddressHouseModel", "readers", "[I", true), ("AddressHouseModel", "readersLen", "[I", true), ("AddressHouseModel", "goneName", "[B", true), ("AddressHouseModel", "goneNameLen", "[I", true), ("AddressHouseModel", "goneAt", "[I", true), ("AddressHouseModel", "gone", "[I", true), ("AddressHouseModel", "forgotten", "[I", true), ("AddressHouseModel", "cardThere", "[Z", true), ("AddressHouseModel", "cardBook", "[I", true), ("AddressHouseModel", "cardName", "[B", true), ("AddressHouseModel", "cardNameLen", "[I", true), ("AddressHouseModel", "cardAt", "[I", true), ("AddressHouseModel", "cardText", "[B", true), ("AddressHouseModel", "cardTextLen", "[I", true), ("AddressHouseModel", "changes", "I", false), ("AddressHouseModel", "con", "I", false), ("AddressHouseModel", "answers", "I", false), ("AddressHouseModel", "head", "[B", true), ("AddressHouseModel", "headLen", "I", false), ("AddressHouseModel", "body", "[B", true), ("AddressHouseModel", "bodyLen", "I", false), ("AddressHouseModel", "closes", "Z", false), ("AddressHouseModel", "isHead", "Z", false), ("AddressHouseModel", "methodLen", "I", false), ("AddressHouseModel", "targetAt", "I", false), ("AddressHouseModel", "targetLen", "I", false), ("AddressHouseModel", "versionAt", "I", false), ("AddressHouseModel", "nameAt", "[I", true), ("AddressHouseModel", "nameLen", "[I", true), ("AddressHouseModel", "valueAt", "[I", true), ("AddressHouseModel", "valueLen", "[I", true), ("AddressHouseModel", "headers", "I", false), ("AddressHouseModel", "extra", "[B", true), ("AddressHouseModel", "extraLen", "I", false), ("AddressHouseModel", "doc", "[B", true), ("AddressHouseModel", "docLen", "I", false), ("AddressHouseModel", "docType", "I", false), ("AddressHouseModel", "docFull", "Z", false), ("AddressHouseModel", "whole", "[B", true), ("AddressHouseModel", "wholeLen", "I", false), ("AddressHouseModel", "method", "I", false), ("AddressHouseModel", "who", "I", false), ("AddressHouseModel", "kind", "I", false), ("AddressHouseModel", "whose", "I", false), ("AddressHouseModel", "path", "[B", true), ("AddressHouseModel", "pathLen", "I", false), ("AddressHouseModel", "bAt", "I", false), ("AddressHouseModel", "bLen", "I", false), ("AddressHouseModel", "cAt", "I", false), ("AddressHouseModel", "cLen", "I", false), ("AddressHouseModel", "book", "I", false), ("AddressHouseModel", "card", "I", false), ("AddressHouseModel", "plain", "[B", true), ("AddressHouseModel", "plainLen", "I", false), ("AddressHouseModel", "bare", "[B", true), ("AddressHouseModel", "uid", "[B", true), ("AddressHouseModel", "uidLen", "I", false), ("AddressHouseModel", "xp", "[B", true), ("AddressHouseModel", "xpLen", "I", false), ("AddressHouseModel", "eSpaceAt", "[I", true), ("AddressHouseModel", "eSpaceLen", "[I", true), ("AddressHouseModel", "eNameAt", "[I", true), ("AddressHouseModel", "eNameLen", "[I", true), ("AddressHouseModel", "eParent", "[I", true), ("AddressHouseModel", "eFirst", "[I", true), ("AddressHouseModel", "eLast", "[I", true), ("AddressHouseModel", "eNext", "[I", true), ("AddressHouseModel", "eTextAt", "[I", true), ("AddressHouseModel", "eTextLen", "[I", true), ("AddressHouseModel", "elements", "I", false), ("AddressHouseModel", "aFirst", "[I", true), ("AddressHouseModel", "aMany", "[I", true), ("AddressHouseModel", "aSpaceAt", "[I", true), ("AddressHouseModel", "aSpaceLen", "[I", true), ("AddressHouseModel", "aNameAt", "[I", true), ("AddressHouseModel", "aNameLen", "[I", true), ("AddressHouseModel", "aValAt", "[I", true), ("AddressHouseModel", "aValLen", "[I", true), ("AddressHouseModel", "attributes", "I", false), ("AddressHouseModel", "rawAt", "[I", true), ("AddressHouseModel", "rawColon", "[I", true), ("AddressHouseModel", "rawEnd", "[I", true), ("AddressHouseModel", "sPrefixAt", "[I", true), ("AddressHouseModel", "sPrefixLen", "[I", true), ("AddressHouseModel", "sSpaceAt", "[I", true), ("AddressHouseModel", "sSpaceLen", "[I", true), ("AddressHouseModel", "says", "I", false), ("AddressHouseModel", "x", "I", false), ("AddressHouseModel", "character", "I", false), ("AddressHouseModel", "nAt", "I", false), ("AddressHouseModel", "nColon", "I", false), ("AddressHouseModel", "nEnd", "I", false), ("AddressHouseModel", "open", "[I", true), ("AddressHouseModel", "openSays", "[I", true), ("AddressHouseModel", "openAt", "[I", true), ("AddressHouseModel", "openEnd", "[I", true), ("AddressHouseModel", "pieceAt", "[I", true), ("AddressHouseModel", "pieceLen", "[I", true), ("AddressHouseModel", "pieceOf", "[I", true), ("AddressHouseModel", "pieces", "I", false), ("AddressHouseModel", "xmlAt", "I", false), ("AddressHouseModel", "fAt", "I", false), ("AddressHouseModel", "fLen", "I", false), ("AddressHouseModel", "tAt", "I", false), ("AddressHouseModel", "tLen", "I", false), ("AddressHouseModel", "raw", "[B", true), ("AddressHouseModel", "rawLen", "I", false), ("AddressHouseModel", "cp", "[B", true), ("AddressHouseModel", "cpLen", "I", false), ("AddressHouseModel", "vp", "[I", true), ("AddressHouseModel", "vpLen", "I", false), ("AddressHouseModel", "version", "I", false), ("AddressHouseModel", "many", "[I", true), ("AddressHouseModel", "pGroupAt", "[I", true), ("AddressHouseModel", "pGroupLen", "[I", true), ("AddressHouseModel", "pNameAt", "[I", true), ("AddressHouseModel", "pNameLen", "[I", true), ("AddressHouseModel", "pKind", "[I", true), ("AddressHouseModel", "pValAt", "[I", true), ("AddressHouseModel", "pValLen", "[I", true), ("AddressHouseModel", "pMany", "[I", true), ("AddressHouseModel", "kNameAt", "[I", true), ("AddressHouseModel", "kNameLen", "[I", true), ("AddressHouseModel", "kFirst", "[I", true), ("AddressHouseModel", "kMany", "[I", true), ("AddressHouseModel", "vAt", "[I", true), ("AddressHouseModel", "vLen", "[I", true), ("AddressHouseModel", "values", "I", false), ("AddressHouseModel", "line", "[B", true), ("AddressHouseModel", "lineLen", "I", false), ("AddressHouseModel", "shown", "I", false), ("AddressHouseModel", "naming", "I", false), ("AddressHouseModel", "t", "I", false), ("AddressHouseModel", "mEnd", "I", false), ("AddressHouseModel", "plKind", "I", false), ("AddressHouseModel", "plBook", "I", false), ("AddressHouseModel", "plCard", "I", false), ("AddressHouseModel", "plUser", "I", false), ("AddressHouseModel", "mode", "I", false), ("AddressHouseModel", "ask", "[I", true), ("AddressHouseModel", "asked", "I", false), ("AddressHouseModel", "reporting", "Z", false), ("AddressHouseModel", "inXml", "Z", false), ("AddressHouseModel", "allowed", "[Z", true), ("AddressHouseModel", "patch", "[I", true), ("AddressHouseModel", "sets", "[Z", true), ("AddressHouseModel", "patches", "I", false), ("AddressHouseModel", "told", "[I", true), ("AddressHouseModel", "toldLen", "I", false), ("AddressHouseModel", "theBook", "I", false), ("AddressHouseModel", "limit", "I", false), ("AddressHouseModel", "meant", "[B", true), ("AddressHouseModel", "meantLen", "I", false), ("AddressHouseModel", "hay", "[I", true), ("AddressHouseModel", "needle", "[I", true)]
def LT_Model : List FieldType := [.int, .array .byte, .int, .array .byte, .array .int, .array .boolean, .array .byte, .int, .int, .array .byte, .array .int, .array .byte, .array .int, .array .boolean, .array .int, .array .byte, .array .int, .array .int, .array .byte, .array .int, .array .byte, .array .int, .array .int, .array .int, .array .byte, .array .int, .array .int, .array .int, .array .int, .array .boolean, .array .int, .array .byte, .array .int, .array .int, .array .byte, .array .int, .int, .int, .int, .array .byte, .int, .array .byte, .int, .boolean, .boolean, .int, .int, .int, .int, .array .int, .array .int, .array .int, .array .int, .int, .array .byte, .int, .array .byte, .int, .int, .boolean, .array .byte, .int, .int, .int, .int, .int, .array .byte, .int, .int, .int, .int, .int, .int, .int, .array .byte, .int, .array .byte, .array .byte, .int, .array .byte, .int, .array .int, .array .int, .array .int, .array .int, .array .int, .array .int, .array .int, .array .int, .array .int, .array .int, .int, .array .int, .array .int, .array .int, .array .int, .array .int, .array .int, .array .int, .array .int, .int, .array .int, .array .int, .array .int, .array .int, .array .int, .array .int, .array .int, .int, .int, .int, .int, .int, .int, .array .int, .array .int, .array .int, .array .int, .array .int, .array .int, .array .int, .int, .int, .int, .int, .int, .int, .array .byte, .int, .array .byte, .int, .array .int, .int, .int, .array .int, .array .int, .array .int, .array .int, .array .int, .array .int, .array .int, .array .int, .array .int, .array .int, .array .int, .array .int, .array .int, .array .int, .array .int, .int, .array .byte, .int, .int, .int, .int, .int, .int, .int, .int, .int, .int, .array .int, .int, .boolean, .boolean, .array .boolean, .array .int, .array .boolean, .int, .array .int, .int, .int, .int, .array .byte, .int, .array .int, .array .int]
def F_Model : u_T := fun k => L_Model.getD k ("", "", "", false)
def t_Model : Nat → FieldType := fun k => LT_Model.getD k .int
def ixM : Nat → Nat := fun k => ([0, 1, 2, 4, 5, 7, 13, 29, 36, 57, 59, 130, 132, 149, 134, 128] : List Nat).getD k 0
theorem ixM_lt : ∀ k, k < 16 → ixM k < 177 := by decide +kernel
def F_ModelS : u_T := fun k => F_Model (ixM k)
def t_ModelS : Nat → FieldType := fun k => t_Model (ixM k)
def ixB : Nat → Nat := fun k => ([0] : List Nat).getD k 0
theorem ixB_lt : ∀ k, k < 1 → ixB k < 13 := by decide +kernel
def F_BookS : u_T := fun k => F_Book (ixB k)
def t_BookS : Nat → FieldType := fun k => t_Book (ixB k)
theorem i_BookS : ∀ w ∈ u_ws R_Book F_BookS 1, w ∈ xw0 := by
  intro w hw
  obtain ⟨k, hk, rfl⟩ := List.mem_map.mp hw
  exact i_Book _ (List.mem_map.mpr ⟨ixB k, List.mem_range.mpr (ixB_lt k (List.mem_range.mp hk)), rfl⟩)
def ixI : Nat → Nat := fun k => ([0] : List Nat).getD k 0
theorem ixI_lt : ∀ k, k < 1 → ixI k < 5 := by decide +kernel
def F_ItemS : u_T := fun k => F_Item (ixI k)
def t_ItemS : Nat → FieldType := fun k => t_Item (ixI k)
theorem i_ItemS : ∀ w ∈ u_ws R_Item F_ItemS 1, w ∈ xw0 := by
  intro w hw
  obtain ⟨k, hk, rfl⟩ := List.mem_map.mp hw
  exact i_Item _ (List.mem_map.mpr ⟨ixI k, List.mem_range.mpr (ixI_lt k (List.mem_range.mp hk)), rfl⟩)
def ixW : Nat → Nat := fun k => ([4] : List Nat).getD k 0
theorem ixW_lt : ∀ k, k < 1 → ixW k < 11 := by decide +kernel
def F_WireS : u_T := fun k => F_Wire (ixW k)
def t_WireS : Nat → FieldType := fun k => t_Wire (ixW k)
theorem i_WireS : ∀ w ∈ u_ws R_Wire F_WireS 1, w ∈ xw0 := by
  intro w hw
  obtain ⟨k, hk, rfl⟩ := List.mem_map.mp hw
  exact i_Wire _ (List.mem_map.mpr ⟨ixW k, List.mem_range.mpr (ixW_lt k (List.mem_range.mp hk)), rfl⟩)
def ixH : Nat → Nat := fun k => ([3, 4, 5] : List Nat).getD k 0
theorem ixH_lt : ∀ k, k < 3 → ixH k < 17 := by decide +kernel
def F_HouseS : u_T := fun k => F_House (ixH k)
def t_HouseS : Nat → FieldType := fun k => t_House (ixH k)
theorem i_HouseS : ∀ w ∈ u_ws R_House F_HouseS 3, w ∈ xw0 := by
  intro w hw
  obtain ⟨k, hk, rfl⟩ := List.mem_map.mp hw
  exact i_House _ (List.mem_map.mpr ⟨ixH k, List.mem_range.mpr (ixH_lt k (List.mem_range.mp hk)), rfl⟩)
def xn_R (dC : Nat → ClassId) (dI : Nat → Nat → Nat) (ci cj n : Nat) (ix : Nat → Nat) : Prop := dC cj = dC ci ∧ ∀ k, k < n → dI cj k = dI ci (ix k)
def xn_ok (dC : Nat → ClassId) (dI : Nat → Nat → Nat) : Prop := xn_R dC dI 12 13 16 ixM ∧ xn_R dC dI 2 14 1 ixB ∧ xn_R dC dI 3 15 1 ixI ∧ xn_R dC dI 1 16 1 ixW ∧ xn_R dC dI 4 17 3 ixH
theorem n_Model : ∀ a, a < 177 → ∀ b, b < 177 → a ≠ b → (F_Model a).2.1 ≠ (F_Model b).2.1 := by decide +kernel
theorem t_Model_ok : ∀ k, k < 177 → parseFieldDescriptor (F_Model k).2.2.1 = some (t_Model k) := by decide +kernel
theorem n_ModelS : ∀ a, a < 16 → ∀ b, b < 16 → a ≠ b → (F_ModelS a).2.1 ≠ (F_ModelS b).2.1 := by decide +kernel
theorem t_ModelS_ok : ∀ k, k < 16 → parseFieldDescriptor (F_ModelS k).2.2.1 = some (t_ModelS k) := by decide +kernel
theorem n_BookS : ∀ a, a < 1 → ∀ b, b < 1 → a ≠ b → (F_BookS a).2.1 ≠ (F_BookS b).2.1 := by decide +kernel
theorem t_BookS_ok : ∀ k, k < 1 → parseFieldDescriptor (F_BookS k).2.2.1 = some (t_BookS k) := by decide +kernel
theorem n_ItemS : ∀ a, a < 1 → ∀ b, b < 1 → a ≠ b → (F_ItemS a).2.1 ≠ (F_ItemS b).2.1 := by decide +kernel
theorem t_ItemS_ok : ∀ k, k < 1 → parseFieldDescriptor (F_ItemS k).2.2.1 = some (t_ItemS k) := by decide +kernel
theorem n_WireS : ∀ a, a < 1 → ∀ b, b < 1 → a ≠ b → (F_WireS a).2.1 ≠ (F_WireS b).2.1 := by decide +kernel
theorem t_WireS_ok : ∀ k, k < 1 → parseFieldDescriptor (F_WireS k).2.2.1 = some (t_WireS k) := by decide +kernel
theorem n_HouseS : ∀ a, a < 3 → ∀ b, b < 3 → a ≠ b → (F_HouseS a).2.1 ≠ (F_HouseS b).2.1 := by decide +kernel
theorem t_HouseS_ok : ∀ k, k < 3 → parseFieldDescriptor (F_HouseS k).2.2.1 = some (t_HouseS k) := by decide +kernel
abbrev classes : List vw_C := [(R_Row, F_Row, 3), (R_Wire, F_Wire, 11), (R_Book, F_Book, 13), (R_Item, F_Item, 5), (R_House, F_House, 17), (R_Card, F_Card, 10), (R_Xml, F_Xml, 17), (R_Scribe, F_Scribe, 9), (R_Filter, F_Filter, 9), (R_Listing, F_Listing, 16), (R_Clerk, F_Clerk, 18), (R_Top, F_Top, 9), (R_Model, F_Model, 177), (R_Model, F_ModelS, 16), (R_Book, F_BookS, 1), (R_Item, F_ItemS, 1), (R_Wire, F_WireS, 1), (R_House, F_HouseS, 3)]
